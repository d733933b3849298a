section
-- ===== PART A: goes FIRST, ahead of the names: the tables' words, and 'selects' of the private methods out of them =====
/-- a private method of a class that the tables say can be made, by its rows of tables_1 -/
def lw_okq (q : MethodName × Nat) : Prop := (q.1.cls ≠ "java/lang/invoke/MethodHandle" ∧ q.1.cls ≠ "java/lang/invoke/VarHandle") ∧ Cond.instantiable q.1.cls q.2 ∈ tables_1 ∧ Cond.privateMethod q.1 ∈ tables_1 ∧ Cond.instanceMethod q.1 ∈ tables_1
theorem lw_p0 : lw_okq (⟨"CoreScheduler", "startAnew", "(I)V"⟩, 17) := ⟨⟨by decide +kernel, by decide +kernel⟩, List.mem_of_getElem? (i := 11) (by decide +kernel), List.mem_of_getElem? (i := 19) (by decide +kernel), List.mem_of_getElem? (i := 20) (by decide +kernel)⟩
theorem lw_p1 : lw_okq (⟨"java/lang/Throwable", "fillInStackTrace", "(I)Ljava/lang/Throwable;"⟩, 6) := ⟨⟨by decide +kernel, by decide +kernel⟩, List.mem_of_getElem? (i := 136) (by decide +kernel), List.mem_of_getElem? (i := 134) (by decide +kernel), List.mem_of_getElem? (i := 135) (by decide +kernel)⟩
theorem lw_p2 : lw_okq (⟨"CoreScheduler", "simulateTick", "()I"⟩, 17) := ⟨⟨by decide +kernel, by decide +kernel⟩, List.mem_of_getElem? (i := 11) (by decide +kernel), List.mem_of_getElem? (i := 174) (by decide +kernel), List.mem_of_getElem? (i := 175) (by decide +kernel)⟩
theorem lw_p3 : lw_okq (⟨"CoreScheduler", "pickForCore", "(I)V"⟩, 17) := ⟨⟨by decide +kernel, by decide +kernel⟩, List.mem_of_getElem? (i := 11) (by decide +kernel), List.mem_of_getElem? (i := 178) (by decide +kernel), List.mem_of_getElem? (i := 179) (by decide +kernel)⟩
theorem lw_p4 : lw_okq (⟨"CoreScheduler", "findLeader", "(I)I"⟩, 17) := ⟨⟨by decide +kernel, by decide +kernel⟩, List.mem_of_getElem? (i := 11) (by decide +kernel), List.mem_of_getElem? (i := 182) (by decide +kernel), List.mem_of_getElem? (i := 183) (by decide +kernel)⟩
theorem lw_p5 : lw_okq (⟨"CoreScheduler", "isRunnable", "(I)Z"⟩, 17) := ⟨⟨by decide +kernel, by decide +kernel⟩, List.mem_of_getElem? (i := 11) (by decide +kernel), List.mem_of_getElem? (i := 186) (by decide +kernel), List.mem_of_getElem? (i := 187) (by decide +kernel)⟩
theorem lw_p6 : lw_okq (⟨"CoreScheduler", "isOnCore", "(II)Z"⟩, 17) := ⟨⟨by decide +kernel, by decide +kernel⟩, List.mem_of_getElem? (i := 11) (by decide +kernel), List.mem_of_getElem? (i := 190) (by decide +kernel), List.mem_of_getElem? (i := 191) (by decide +kernel)⟩
theorem lw_p7 : lw_okq (⟨"CoreScheduler", "comesBefore", "(II)Z"⟩, 17) := ⟨⟨by decide +kernel, by decide +kernel⟩, List.mem_of_getElem? (i := 11) (by decide +kernel), List.mem_of_getElem? (i := 197) (by decide +kernel), List.mem_of_getElem? (i := 198) (by decide +kernel)⟩
theorem lw_p8 : lw_okq (⟨"CoreScheduler", "relativeTime", "(I)J"⟩, 17) := ⟨⟨by decide +kernel, by decide +kernel⟩, List.mem_of_getElem? (i := 11) (by decide +kernel), List.mem_of_getElem? (i := 201) (by decide +kernel), List.mem_of_getElem? (i := 202) (by decide +kernel)⟩
theorem lw_p9 : lw_okq (⟨"CoreScheduler", "releaseTasks", "(I)V"⟩, 17) := ⟨⟨by decide +kernel, by decide +kernel⟩, List.mem_of_getElem? (i := 11) (by decide +kernel), List.mem_of_getElem? (i := 205) (by decide +kernel), List.mem_of_getElem? (i := 206) (by decide +kernel)⟩
theorem lw_p10 : lw_okq (⟨"CoreScheduler", "takeTask", "(II)I"⟩, 17) := ⟨⟨by decide +kernel, by decide +kernel⟩, List.mem_of_getElem? (i := 11) (by decide +kernel), List.mem_of_getElem? (i := 209) (by decide +kernel), List.mem_of_getElem? (i := 210) (by decide +kernel)⟩
theorem lw_p11 : lw_okq (⟨"CoreScheduler", "findOwn", "(II)I"⟩, 17) := ⟨⟨by decide +kernel, by decide +kernel⟩, List.mem_of_getElem? (i := 11) (by decide +kernel), List.mem_of_getElem? (i := 213) (by decide +kernel), List.mem_of_getElem? (i := 214) (by decide +kernel)⟩
theorem lw_p12 : lw_okq (⟨"CoreScheduler", "isQueued", "(II)Z"⟩, 17) := ⟨⟨by decide +kernel, by decide +kernel⟩, List.mem_of_getElem? (i := 11) (by decide +kernel), List.mem_of_getElem? (i := 217) (by decide +kernel), List.mem_of_getElem? (i := 218) (by decide +kernel)⟩
theorem lw_p13 : lw_okq (⟨"CoreScheduler", "findLoot", "(II)I"⟩, 17) := ⟨⟨by decide +kernel, by decide +kernel⟩, List.mem_of_getElem? (i := 11) (by decide +kernel), List.mem_of_getElem? (i := 221) (by decide +kernel), List.mem_of_getElem? (i := 222) (by decide +kernel)⟩
theorem lw_p14 : lw_okq (⟨"CoreScheduler", "isLoot", "(III)Z"⟩, 17) := ⟨⟨by decide +kernel, by decide +kernel⟩, List.mem_of_getElem? (i := 11) (by decide +kernel), List.mem_of_getElem? (i := 225) (by decide +kernel), List.mem_of_getElem? (i := 226) (by decide +kernel)⟩
theorem lw_p15 : lw_okq (⟨"CoreScheduler", "moveRunnable", "(II)V"⟩, 17) := ⟨⟨by decide +kernel, by decide +kernel⟩, List.mem_of_getElem? (i := 11) (by decide +kernel), List.mem_of_getElem? (i := 229) (by decide +kernel), List.mem_of_getElem? (i := 230) (by decide +kernel)⟩
def lw_privs_1 : List (MethodName × Nat) := [(⟨"CoreScheduler", "startAnew", "(I)V"⟩, 17), (⟨"java/lang/Throwable", "fillInStackTrace", "(I)Ljava/lang/Throwable;"⟩, 6), (⟨"CoreScheduler", "simulateTick", "()I"⟩, 17), (⟨"CoreScheduler", "pickForCore", "(I)V"⟩, 17), (⟨"CoreScheduler", "findLeader", "(I)I"⟩, 17), (⟨"CoreScheduler", "isRunnable", "(I)Z"⟩, 17), (⟨"CoreScheduler", "isOnCore", "(II)Z"⟩, 17), (⟨"CoreScheduler", "comesBefore", "(II)Z"⟩, 17), (⟨"CoreScheduler", "relativeTime", "(I)J"⟩, 17), (⟨"CoreScheduler", "releaseTasks", "(I)V"⟩, 17), (⟨"CoreScheduler", "takeTask", "(II)I"⟩, 17), (⟨"CoreScheduler", "findOwn", "(II)I"⟩, 17), (⟨"CoreScheduler", "isQueued", "(II)Z"⟩, 17), (⟨"CoreScheduler", "findLoot", "(II)I"⟩, 17), (⟨"CoreScheduler", "isLoot", "(III)Z"⟩, 17), (⟨"CoreScheduler", "moveRunnable", "(II)V"⟩, 17)]
theorem lw_r1 : ∀ q ∈ lw_privs_1, lw_okq q := List.forall_mem_cons.mpr ⟨lw_p0, List.forall_mem_cons.mpr ⟨lw_p1, List.forall_mem_cons.mpr ⟨lw_p2, List.forall_mem_cons.mpr ⟨lw_p3, List.forall_mem_cons.mpr ⟨lw_p4, List.forall_mem_cons.mpr ⟨lw_p5, List.forall_mem_cons.mpr ⟨lw_p6, List.forall_mem_cons.mpr ⟨lw_p7, List.forall_mem_cons.mpr ⟨lw_p8, List.forall_mem_cons.mpr ⟨lw_p9, List.forall_mem_cons.mpr ⟨lw_p10, List.forall_mem_cons.mpr ⟨lw_p11, List.forall_mem_cons.mpr ⟨lw_p12, List.forall_mem_cons.mpr ⟨lw_p13, List.forall_mem_cons.mpr ⟨lw_p14, List.forall_mem_cons.mpr ⟨lw_p15, fun _ h => absurd h List.not_mem_nil⟩⟩⟩⟩⟩⟩⟩⟩⟩⟩⟩⟩⟩⟩⟩⟩
theorem lw_p16 : lw_okq (⟨"CoreScheduler", "giveToCpu", "(II)V"⟩, 17) := ⟨⟨by decide +kernel, by decide +kernel⟩, List.mem_of_getElem? (i := 11) (by decide +kernel), List.mem_of_getElem? (i := 233) (by decide +kernel), List.mem_of_getElem? (i := 234) (by decide +kernel)⟩
theorem lw_p17 : lw_okq (⟨"CoreScheduler", "countQueue", "(I)I"⟩, 17) := ⟨⟨by decide +kernel, by decide +kernel⟩, List.mem_of_getElem? (i := 11) (by decide +kernel), List.mem_of_getElem? (i := 237) (by decide +kernel), List.mem_of_getElem? (i := 238) (by decide +kernel)⟩
theorem lw_p18 : lw_okq (⟨"CoreScheduler", "chargeTasks", "()I"⟩, 17) := ⟨⟨by decide +kernel, by decide +kernel⟩, List.mem_of_getElem? (i := 11) (by decide +kernel), List.mem_of_getElem? (i := 241) (by decide +kernel), List.mem_of_getElem? (i := 242) (by decide +kernel)⟩
theorem lw_p19 : lw_okq (⟨"CoreScheduler", "countIdleCpus", "()V"⟩, 17) := ⟨⟨by decide +kernel, by decide +kernel⟩, List.mem_of_getElem? (i := 11) (by decide +kernel), List.mem_of_getElem? (i := 248) (by decide +kernel), List.mem_of_getElem? (i := 249) (by decide +kernel)⟩
theorem lw_p20 : lw_okq (⟨"CoreScheduler", "cpuTotal", "()I"⟩, 17) := ⟨⟨by decide +kernel, by decide +kernel⟩, List.mem_of_getElem? (i := 11) (by decide +kernel), List.mem_of_getElem? (i := 252) (by decide +kernel), List.mem_of_getElem? (i := 253) (by decide +kernel)⟩
theorem lw_p21 : lw_okq (⟨"CoreScheduler", "raiseBases", "()V"⟩, 17) := ⟨⟨by decide +kernel, by decide +kernel⟩, List.mem_of_getElem? (i := 11) (by decide +kernel), List.mem_of_getElem? (i := 256) (by decide +kernel), List.mem_of_getElem? (i := 257) (by decide +kernel)⟩
theorem lw_p22 : lw_okq (⟨"CoreScheduler", "findLeastTime", "(I)I"⟩, 17) := ⟨⟨by decide +kernel, by decide +kernel⟩, List.mem_of_getElem? (i := 11) (by decide +kernel), List.mem_of_getElem? (i := 260) (by decide +kernel), List.mem_of_getElem? (i := 261) (by decide +kernel)⟩
theorem lw_p23 : lw_okq (⟨"CoreScheduler", "checkCpu", "(I)V"⟩, 17) := ⟨⟨by decide +kernel, by decide +kernel⟩, List.mem_of_getElem? (i := 11) (by decide +kernel), List.mem_of_getElem? (i := 275) (by decide +kernel), List.mem_of_getElem? (i := 276) (by decide +kernel)⟩
theorem lw_p24 : lw_okq (⟨"CoreScheduler", "enterQueue", "(I)V"⟩, 17) := ⟨⟨by decide +kernel, by decide +kernel⟩, List.mem_of_getElem? (i := 11) (by decide +kernel), List.mem_of_getElem? (i := 304) (by decide +kernel), List.mem_of_getElem? (i := 305) (by decide +kernel)⟩
theorem lw_p25 : lw_okq (⟨"CoreScheduler", "checkTask", "(I)V"⟩, 17) := ⟨⟨by decide +kernel, by decide +kernel⟩, List.mem_of_getElem? (i := 11) (by decide +kernel), List.mem_of_getElem? (i := 315) (by decide +kernel), List.mem_of_getElem? (i := 316) (by decide +kernel)⟩
theorem lw_p26 : lw_okq (⟨"CoreScheduler", "stopTask", "(II)I"⟩, 17) := ⟨⟨by decide +kernel, by decide +kernel⟩, List.mem_of_getElem? (i := 11) (by decide +kernel), List.mem_of_getElem? (i := 321) (by decide +kernel), List.mem_of_getElem? (i := 322) (by decide +kernel)⟩
theorem lw_p27 : lw_okq (⟨"CoreScheduler", "checkNotExited", "(I)V"⟩, 17) := ⟨⟨by decide +kernel, by decide +kernel⟩, List.mem_of_getElem? (i := 11) (by decide +kernel), List.mem_of_getElem? (i := 340) (by decide +kernel), List.mem_of_getElem? (i := 341) (by decide +kernel)⟩
theorem lw_p28 : lw_okq (⟨"CoreScheduler", "checkCore", "(I)V"⟩, 17) := ⟨⟨by decide +kernel, by decide +kernel⟩, List.mem_of_getElem? (i := 11) (by decide +kernel), List.mem_of_getElem? (i := 423) (by decide +kernel), List.mem_of_getElem? (i := 424) (by decide +kernel)⟩
theorem lw_p29 : lw_okq (⟨"CoreScheduler", "positionOf", "(I)I"⟩, 17) := ⟨⟨by decide +kernel, by decide +kernel⟩, List.mem_of_getElem? (i := 11) (by decide +kernel), List.mem_of_getElem? (i := 450) (by decide +kernel), List.mem_of_getElem? (i := 451) (by decide +kernel)⟩
theorem lw_p30 : lw_okq (⟨"CoreSchedulerModel", "begins", "(I)V"⟩, 18) := ⟨⟨by decide +kernel, by decide +kernel⟩, List.mem_of_getElem? (i := 491) (by decide +kernel), List.mem_of_getElem? (i := 497) (by decide +kernel), List.mem_of_getElem? (i := 498) (by decide +kernel)⟩
theorem lw_p31 : lw_okq (⟨"CoreSchedulerModel", "isRefused", "(ZZ)Z"⟩, 18) := ⟨⟨by decide +kernel, by decide +kernel⟩, List.mem_of_getElem? (i := 491) (by decide +kernel), List.mem_of_getElem? (i := 568) (by decide +kernel), List.mem_of_getElem? (i := 569) (by decide +kernel)⟩
def lw_privs_2 : List (MethodName × Nat) := [(⟨"CoreScheduler", "giveToCpu", "(II)V"⟩, 17), (⟨"CoreScheduler", "countQueue", "(I)I"⟩, 17), (⟨"CoreScheduler", "chargeTasks", "()I"⟩, 17), (⟨"CoreScheduler", "countIdleCpus", "()V"⟩, 17), (⟨"CoreScheduler", "cpuTotal", "()I"⟩, 17), (⟨"CoreScheduler", "raiseBases", "()V"⟩, 17), (⟨"CoreScheduler", "findLeastTime", "(I)I"⟩, 17), (⟨"CoreScheduler", "checkCpu", "(I)V"⟩, 17), (⟨"CoreScheduler", "enterQueue", "(I)V"⟩, 17), (⟨"CoreScheduler", "checkTask", "(I)V"⟩, 17), (⟨"CoreScheduler", "stopTask", "(II)I"⟩, 17), (⟨"CoreScheduler", "checkNotExited", "(I)V"⟩, 17), (⟨"CoreScheduler", "checkCore", "(I)V"⟩, 17), (⟨"CoreScheduler", "positionOf", "(I)I"⟩, 17), (⟨"CoreSchedulerModel", "begins", "(I)V"⟩, 18), (⟨"CoreSchedulerModel", "isRefused", "(ZZ)Z"⟩, 18)]
theorem lw_r2 : ∀ q ∈ lw_privs_2, lw_okq q := List.forall_mem_cons.mpr ⟨lw_p16, List.forall_mem_cons.mpr ⟨lw_p17, List.forall_mem_cons.mpr ⟨lw_p18, List.forall_mem_cons.mpr ⟨lw_p19, List.forall_mem_cons.mpr ⟨lw_p20, List.forall_mem_cons.mpr ⟨lw_p21, List.forall_mem_cons.mpr ⟨lw_p22, List.forall_mem_cons.mpr ⟨lw_p23, List.forall_mem_cons.mpr ⟨lw_p24, List.forall_mem_cons.mpr ⟨lw_p25, List.forall_mem_cons.mpr ⟨lw_p26, List.forall_mem_cons.mpr ⟨lw_p27, List.forall_mem_cons.mpr ⟨lw_p28, List.forall_mem_cons.mpr ⟨lw_p29, List.forall_mem_cons.mpr ⟨lw_p30, List.forall_mem_cons.mpr ⟨lw_p31, fun _ h => absurd h List.not_mem_nil⟩⟩⟩⟩⟩⟩⟩⟩⟩⟩⟩⟩⟩⟩⟩⟩
theorem lw_p32 : lw_okq (⟨"CoreSchedulerModel", "tickOne", "()I"⟩, 18) := ⟨⟨by decide +kernel, by decide +kernel⟩, List.mem_of_getElem? (i := 491) (by decide +kernel), List.mem_of_getElem? (i := 581) (by decide +kernel), List.mem_of_getElem? (i := 582) (by decide +kernel)⟩
theorem lw_p33 : lw_okq (⟨"CoreSchedulerModel", "picks", "(I)V"⟩, 18) := ⟨⟨by decide +kernel, by decide +kernel⟩, List.mem_of_getElem? (i := 491) (by decide +kernel), List.mem_of_getElem? (i := 585) (by decide +kernel), List.mem_of_getElem? (i := 586) (by decide +kernel)⟩
theorem lw_p34 : lw_okq (⟨"CoreSchedulerModel", "leader", "(I)I"⟩, 18) := ⟨⟨by decide +kernel, by decide +kernel⟩, List.mem_of_getElem? (i := 491) (by decide +kernel), List.mem_of_getElem? (i := 589) (by decide +kernel), List.mem_of_getElem? (i := 590) (by decide +kernel)⟩
theorem lw_p35 : lw_okq (⟨"CoreSchedulerModel", "isRunnable", "(I)Z"⟩, 18) := ⟨⟨by decide +kernel, by decide +kernel⟩, List.mem_of_getElem? (i := 491) (by decide +kernel), List.mem_of_getElem? (i := 593) (by decide +kernel), List.mem_of_getElem? (i := 594) (by decide +kernel)⟩
theorem lw_p36 : lw_okq (⟨"CoreSchedulerModel", "isAhead", "(II)Z"⟩, 18) := ⟨⟨by decide +kernel, by decide +kernel⟩, List.mem_of_getElem? (i := 491) (by decide +kernel), List.mem_of_getElem? (i := 597) (by decide +kernel), List.mem_of_getElem? (i := 598) (by decide +kernel)⟩
theorem lw_p37 : lw_okq (⟨"CoreSchedulerModel", "relative", "(I)J"⟩, 18) := ⟨⟨by decide +kernel, by decide +kernel⟩, List.mem_of_getElem? (i := 491) (by decide +kernel), List.mem_of_getElem? (i := 601) (by decide +kernel), List.mem_of_getElem? (i := 602) (by decide +kernel)⟩
theorem lw_p38 : lw_okq (⟨"CoreSchedulerModel", "firstOf", "(II)I"⟩, 18) := ⟨⟨by decide +kernel, by decide +kernel⟩, List.mem_of_getElem? (i := 491) (by decide +kernel), List.mem_of_getElem? (i := 605) (by decide +kernel), List.mem_of_getElem? (i := 606) (by decide +kernel)⟩
theorem lw_p39 : lw_okq (⟨"CoreSchedulerModel", "toSteal", "(II)I"⟩, 18) := ⟨⟨by decide +kernel, by decide +kernel⟩, List.mem_of_getElem? (i := 491) (by decide +kernel), List.mem_of_getElem? (i := 609) (by decide +kernel), List.mem_of_getElem? (i := 610) (by decide +kernel)⟩
theorem lw_p40 : lw_okq (⟨"CoreSchedulerModel", "goesTo", "(II)V"⟩, 18) := ⟨⟨by decide +kernel, by decide +kernel⟩, List.mem_of_getElem? (i := 491) (by decide +kernel), List.mem_of_getElem? (i := 613) (by decide +kernel), List.mem_of_getElem? (i := 614) (by decide +kernel)⟩
theorem lw_p41 : lw_okq (⟨"CoreSchedulerModel", "queued", "(I)I"⟩, 18) := ⟨⟨by decide +kernel, by decide +kernel⟩, List.mem_of_getElem? (i := 491) (by decide +kernel), List.mem_of_getElem? (i := 617) (by decide +kernel), List.mem_of_getElem? (i := 618) (by decide +kernel)⟩
theorem lw_p42 : lw_okq (⟨"CoreSchedulerModel", "noCpu", "(I)Z"⟩, 18) := ⟨⟨by decide +kernel, by decide +kernel⟩, List.mem_of_getElem? (i := 491) (by decide +kernel), List.mem_of_getElem? (i := 625) (by decide +kernel), List.mem_of_getElem? (i := 626) (by decide +kernel)⟩
theorem lw_p43 : lw_okq (⟨"CoreSchedulerModel", "noTask", "(I)Z"⟩, 18) := ⟨⟨by decide +kernel, by decide +kernel⟩, List.mem_of_getElem? (i := 491) (by decide +kernel), List.mem_of_getElem? (i := 641) (by decide +kernel), List.mem_of_getElem? (i := 642) (by decide +kernel)⟩
theorem lw_p44 : lw_okq (⟨"CoreSchedulerModel", "becomes", "(II)I"⟩, 18) := ⟨⟨by decide +kernel, by decide +kernel⟩, List.mem_of_getElem? (i := 491) (by decide +kernel), List.mem_of_getElem? (i := 645) (by decide +kernel), List.mem_of_getElem? (i := 646) (by decide +kernel)⟩
theorem lw_p45 : lw_okq (⟨"CoreSchedulerModel", "hasExited", "(I)Z"⟩, 18) := ⟨⟨by decide +kernel, by decide +kernel⟩, List.mem_of_getElem? (i := 491) (by decide +kernel), List.mem_of_getElem? (i := 657) (by decide +kernel), List.mem_of_getElem? (i := 658) (by decide +kernel)⟩
theorem lw_p46 : lw_okq (⟨"CoreSchedulerModel", "noCore", "(I)Z"⟩, 18) := ⟨⟨by decide +kernel, by decide +kernel⟩, List.mem_of_getElem? (i := 491) (by decide +kernel), List.mem_of_getElem? (i := 709) (by decide +kernel), List.mem_of_getElem? (i := 710) (by decide +kernel)⟩
def lw_privs_3 : List (MethodName × Nat) := [(⟨"CoreSchedulerModel", "tickOne", "()I"⟩, 18), (⟨"CoreSchedulerModel", "picks", "(I)V"⟩, 18), (⟨"CoreSchedulerModel", "leader", "(I)I"⟩, 18), (⟨"CoreSchedulerModel", "isRunnable", "(I)Z"⟩, 18), (⟨"CoreSchedulerModel", "isAhead", "(II)Z"⟩, 18), (⟨"CoreSchedulerModel", "relative", "(I)J"⟩, 18), (⟨"CoreSchedulerModel", "firstOf", "(II)I"⟩, 18), (⟨"CoreSchedulerModel", "toSteal", "(II)I"⟩, 18), (⟨"CoreSchedulerModel", "goesTo", "(II)V"⟩, 18), (⟨"CoreSchedulerModel", "queued", "(I)I"⟩, 18), (⟨"CoreSchedulerModel", "noCpu", "(I)Z"⟩, 18), (⟨"CoreSchedulerModel", "noTask", "(I)Z"⟩, 18), (⟨"CoreSchedulerModel", "becomes", "(II)I"⟩, 18), (⟨"CoreSchedulerModel", "hasExited", "(I)Z"⟩, 18), (⟨"CoreSchedulerModel", "noCore", "(I)Z"⟩, 18)]
theorem lw_r3 : ∀ q ∈ lw_privs_3, lw_okq q := List.forall_mem_cons.mpr ⟨lw_p32, List.forall_mem_cons.mpr ⟨lw_p33, List.forall_mem_cons.mpr ⟨lw_p34, List.forall_mem_cons.mpr ⟨lw_p35, List.forall_mem_cons.mpr ⟨lw_p36, List.forall_mem_cons.mpr ⟨lw_p37, List.forall_mem_cons.mpr ⟨lw_p38, List.forall_mem_cons.mpr ⟨lw_p39, List.forall_mem_cons.mpr ⟨lw_p40, List.forall_mem_cons.mpr ⟨lw_p41, List.forall_mem_cons.mpr ⟨lw_p42, List.forall_mem_cons.mpr ⟨lw_p43, List.forall_mem_cons.mpr ⟨lw_p44, List.forall_mem_cons.mpr ⟨lw_p45, List.forall_mem_cons.mpr ⟨lw_p46, fun _ h => absurd h List.not_mem_nil⟩⟩⟩⟩⟩⟩⟩⟩⟩⟩⟩⟩⟩⟩⟩
def lw_privs : List (MethodName × Nat) := lw_privs_1 ++ (lw_privs_2 ++ (lw_privs_3))
def lw_tbl : List Cond := k2_sels lw_privs ++ tables_1
theorem lw_privs_ok : ∀ q ∈ lw_privs, lw_okq q := by
  show ∀ q ∈ lw_privs_1 ++ (lw_privs_2 ++ (lw_privs_3)), lw_okq q
  exact List.forall_mem_append.mpr ⟨lw_r1, List.forall_mem_append.mpr ⟨lw_r2, lw_r3⟩⟩
/-- the streams that the claim lets the run draw from -/
abbrev lw_cs : List Choice := [Jvm.Choice.named "NaN.bits"]
theorem lw_bits : nanBits ∈ lw_cs := by first | decide | exact List.mem_cons_self | simp [lw_cs, nanBits]
end
section
/-! ===== BEGIN words of one list among another's, by their places ===== -/
theorem goodIn_r {big : List Cond} (ws : List Cond) (ps : List Nat) (hp : ws = ps.filterMap (fun i => big[i]?)) (h : ws.all goodWord = true) : GoodIn big ws := by
  intro w hw
  have h1 := List.all_eq_true.mp h w hw
  rw [hp] at hw
  obtain ⟨i, -, hi⟩ := List.mem_filterMap.mp hw
  have hm : w ∈ big := by first | exact List.mem_of_getElem? hi | exact List.getElem?_mem hi
  exact ⟨hm, good_of_word h1⟩
theorem goodIn_app {big a b : List Cond} (ha : GoodIn big a) (hb : GoodIn big b) : GoodIn big (a ++ b) := fun w h => (List.mem_append.mp h).elim (ha w) (hb w)
theorem goodIn_ca {big a b : List Cond} {c : Cond} (ha : GoodIn big (c :: a)) (hb : GoodIn big b) : GoodIn big (c :: (a ++ b)) := fun w h => (List.mem_cons.mp h).elim (fun e => ha w (List.mem_cons.mpr (Or.inl e))) (fun h => (List.mem_append.mp h).elim (fun h => ha w (List.mem_cons.mpr (Or.inr h))) (hb w))
theorem goodIn_sub {big ws : List Cond} (hm : ∀ w ∈ ws, w ∈ big) (h : ws.all goodWord = true) : GoodIn big ws := fun w hw => ⟨hm w hw, good_of_word (List.all_eq_true.mp h w hw)⟩
/-! ===== END ===== -/

/-! ===== BEGIN exceptions that leave a method, and their catching by the caller (launches without stack traces) ===== -/
section VXA
/-! The laws vx_back, vx_callV, vx_callS, vx_callSW, vx_throw0, vx_throwS follow proofs of the library, with one case more: JvmDerived/Free/Laws.lean (Back.of_free), Shelf42/LK1.lean (callV, callS), Shelf/KitTraced.lean (throwNew0V, throwNewS). -/
/-- where a method has thrown q: the class by its name, the cell, what was written, the world -/
def vx_T (XC : String → State → State → Prop) (st : State) (q : Addr) (t : State) (mc ms : Nat) (free : Addr → Prop) : Prop :=
  ∃ (E : String) (ce : Cell) (L : List Loc), XC E st t ∧ t.heap[q]? = some ce ∧ ce.vm = .none ∧ st.vm.findClass E = some ce.cls ∧ st.WarmedH t.vm ∧ st.sameButNew ({ t with vm := st.vm } : State) L mc ms ∧ ∀ z ∈ L, free z.base
def vx_Q (Qc : Array Value → State → Outcome → State → Prop) (XC : String → State → State → Prop) (mc ms : Nat) (free : Addr → Prop) : Array Value → State → Outcome → State → Prop := fun a st o t =>
  (Qc a st o t ∧ ∃ L, FrameEnd st o t L mc ms ∧ ∀ q ∈ L, free q.base) ∨ ∃ q, o = .threw q ∧ vx_T XC st q t mc ms free
/-- a callee that returns or throws -/
def vx_Met (l : Launch) (y : MethodName) (ws : List Cond) (rm : Room) (Pc : Array Value → State → Prop) (Qc : Array Value → State → Outcome → State → Prop) (XC : String → State → State → Prop) (mc ms : Nat) (free : Addr → Prop) : Prop :=
  MetFree l y (headSpec ws rm) Pc (fun _ _ _ _ _ => True) (vx_Q Qc XC mc ms free)
def vx_Post (XC : String → State → State → Prop) (mc ms : Nat) (free : Addr → Prop) : Pt → Array Value → Addr → Pt → Prop := fun A a q B =>
  ∃ (g : JFrame) (mk : MethodId) (t : State) (L : List Loc) (E : String) (ce : Cell), B.U.heap = t.heap ∧ B.U.vm = t.vm ∧ XC E (A.U.calling g mk a) t ∧ t.heap[q]? = some ce ∧ ce.vm = .none ∧ A.U.vm.findClass E = some ce.cls ∧ B.locs = A.locs ++ L ∧ (∀ z ∈ L, free z.base) ∧ B.cells = A.cells + mc ∧ B.slots = A.slots + ms
def vx_Back (l : Launch) (R : Room) (p : Program) (e : Env) (below : List Frame) (s : State) (sargs : Array Value) (y : MethodName) (len W9 : Nat)
    (Pre : Pt → Array Value → Prop) (Post : Pt → Array Value → Option Value → Pt → Prop) (PostX : Pt → Array Value → Addr → Pt → Prop) : Prop :=
  ∀ (m : MethodId) (meth : Method) (c : Code) (A : Pt) (g : JFrame) (ig : Instr) (mk : MethodId) (a : Array Value),
    Stand p l e R s m sargs below meth c A.U A.locs A.cells A.slots → g.method = m → g.locals.size = c.maxLocals → decode c.code g.pc = .ok (ig, len) →
    2 * g.monitorRoom + (g.stack.map fun v => v.category).sum ≤ W9 → A.U.methodNamed? y = some mk → Pre A a →
    (∃ (v : Option Value) (B : Pt), Stand p l e R s m sargs below meth c B.U B.locs B.cells B.slots ∧ Post A a v B ∧
      Steps p.tables e below (doInvoke e (A.U.setTop g) [] mk a).1 (B.U.setTop { g with pc := g.pc + len, stack := v.toList ++ g.stack })) ∨
    (∃ (q : Addr) (B : Pt), Stand p l e R s m sargs below meth c B.U B.locs B.cells B.slots ∧ PostX A a q B ∧
      Steps p.tables e below (doInvoke e (A.U.setTop g) [] mk a).1 ((B.U.setTop g).pushFrame (.throwing q)))
section Payer
variable {l : Launch} {R : Room} {p : Program} {e : Env} {below : List Frame} {s : State} {sargs : Array Value} {y : MethodName} {len W9 : Nat}
theorem vx_back {ws : List Cond} {rm : Room} {Pc : Array Value → State → Prop} {Qc : Array Value → State → Outcome → State → Prop} {XC : String → State → State → Prop} {mc ms : Nat} {free : Addr → Prop} {bytes : ByteArray} {maxL : Nat} {ret : Option FieldType}
    (hM : vx_Met l y ws rm Pc Qc XC mc ms free) (hblind : FrameBlind Pc) (hrc : rm.cells = mc) (hrs : rm.slots = ms)
    (hframes : rm.frames + 1 ≤ R.frames) (hlocals : W9 + (maxL + 11) + rm.locals ≤ R.locals)
    (hws : ∀ w ∈ ws, ∀ a' U, s.WarmedH U.vm → w.before a' U = true) (hcode : Cond.code y bytes maxL ret ∈ ws) (hinit : ∀ a' U, s.WarmedH U.vm → (Cond.initialized y.cls).before a' U = true) :
    vx_Back l R p e below s sargs y len W9 (PreOf R mc ms Pc) (PostOf Qc mc ms free) (vx_Post XC mc ms free) := by
  intro m meth c A g ig mk a X hg hsize hdg hW hn hp
  have h1 : (headSpec ws rm).pre.before a A.U = true := atoms_intro fun w hw => hws w hw _ _ X.warmed
  have h2 : (Cond.code y bytes maxL ret).before a A.U = true := hws _ hcode _ _ X.warmed
  have h3 : (Cond.initialized y.cls).before a A.U = true := hinit _ _ X.warmed
  have h4 : A.cells + (headSpec ws rm).room.cells ≤ R.cells := by rw [show (headSpec ws rm).room.cells = mc from hrc]; exact hp.1
  have h5 : A.slots + (headSpec ws rm).room.slots ≤ R.slots := by rw [show (headSpec ws rm).room.slots = ms from hrs]; exact hp.2.1
  have hPc : Pc a (A.U.calling g mk a) := hblind _ _ _ _ hp.2.2
  obtain ⟨U, Ls, c0, s0⟩ := A
  dsimp only [Pt.U, Pt.locs, Pt.cells, Pt.slots] at h1 h2 h3 h4 h5 X hn hPc ⊢
  obtain ⟨methY, cY, hmY, hcY, -, hlY, -, -, -, -⟩ := Cond.code_spec hn h2
  obtain ⟨kY, hkY, -⟩ := className_of_methodNamed hn
  have hinitY : kY.init = .initialized := Cond.initialized_spec (findClass_of_methodNamed hn) hkY h3
  have h : At U g.method c below := by rw [hg]; exact X.here
  have hlocals9 : W9 + (maxL + 11) + (headSpec ws rm).room.locals ≤ R.locals := hlocals
  have happ : (headSpec ws rm).appliesLoose y e.platform (U.calling g mk a) = true :=
    Spec.appliesLoose_calling (g := g) h hdg hn hkY hinitY
      (X.room_calling (g := g) (R' := (headSpec ws rm).room) hsize hmY hcY hframes (by rw [hlY]; omega) h4 h5) h1
  obtain ⟨mid, hmid⟩ := h.above
  have hfr : (U.setTop g).frames = (.java g :: mid) ++ below := by rw [State.frames_setTop' g h.top, hmid]; rfl
  obtain ⟨o, s₂, hsteps, -, hend, hq⟩ := Steps.callFree hM p X.admits X.cas X.clock (acts := []) hfr happ hPc trivial
  have hq' : vx_Q Qc XC mc ms free a (U.calling g mk a) o s₂ := hq
  rw [State.frames_setTop' g h.top] at hend
  obtain ⟨g₀, hg0⟩ := Option.isSome_iff_exists.mp h.top
  obtain ⟨r, hr⟩ := State.topJava?_eq_some.mp hg0
  have hr' : (({ U with heap := s₂.heap, slotsUsed := s₂.slotsUsed } : State).setVm s₂.vm).frames = .java g₀ :: r := hr
  rcases hq' with ⟨hqc, L, hfe, hL⟩ | ⟨q, rfl, E, ce, L, hx, hce, hcv, hcl, hW₂, hsm, hL⟩
  · obtain ⟨⟨v, rfl⟩, hW₂, e2, q2, q3, q4, q5, q6⟩ := id hfe
    have e3 : s₂ = ({ (U.calling g mk a).setFrames s₂.frames with heap := s₂.heap, slotsUsed := s₂.slotsUsed } : State).setVm s₂.vm := by
      have : s₂ = ({ s₂ with vm := (U.calling g mk a).vm } : State).setVm s₂.vm := rfl
      rw [e2] at this
      exact this
    obtain ⟨c₂, i₂, len₂, hc₂, hd₂, hf₂⟩ := hend
    have hW' : U.WarmedH s₂.vm := hW₂
    have hcc : c₂ = c := by
      have h1 : s₂.code? g.method = U.code? g.method := by
        rw [State.code?_eq, State.code?_eq, hW'.alike.method?]
      exact Option.some.inj (hc₂.symm.trans (h1.trans h.code))
    subst hcc
    have hlen : len₂ = len := by rw [hdg] at hd₂; cases hd₂; rfl
    subst hlen
    have hs₂ : s₂ = (({ U with heap := s₂.heap, slotsUsed := s₂.slotsUsed } : State).setVm s₂.vm).setTop { g with pc := g.pc + len₂, stack := v.toList ++ g.stack } := by
      refine e3.trans ?_
      rw [hf₂, State.calling_eq h.top, State.setFrames_setFrames, State.setTop_of_frames _ hr', hr]
      rfl
    have hsame : U.sameButNew ({ U with heap := s₂.heap, slotsUsed := s₂.slotsUsed } : State) L mc ms := by
      refine ⟨?_, q2, q3, q4, q5, q6⟩
      obtain ⟨t, ht, -⟩ := State.frames_cons hr
      show ({ U with heap := s₂.heap, slotsUsed := s₂.slotsUsed } : State) = { U.setFrames U.frames with heap := s₂.heap, slotsUsed := s₂.slotsUsed }
      rw [State.setFrames_self ht]
    subst hg
    refine Or.inl ⟨v, ⟨(({ U with heap := s₂.heap, slotsUsed := s₂.slotsUsed } : State).setVm s₂.vm), Ls ++ L, c0 + mc, s0 + ms⟩,
      ⟨X.admits, X.cas, X.clock, X.frames, X.room, X.hears, X.method, X.code, (X.here.setHeapUsed s₂.heap s₂.slotsUsed).setVm hW'.alike, X.tail, State.WarmedH.trans X.warmed hW', X.limits, X.bytes, X.same.trans (hsame.setVm s.vm)⟩,
      ⟨g, mk, s₂, L, rfl, rfl, hqc, rfl, hL, rfl, rfl⟩, ?_⟩
    show Steps p.tables e below _ ((({ U with heap := s₂.heap, slotsUsed := s₂.slotsUsed } : State).setVm s₂.vm).setTop { g with pc := g.pc + len₂, stack := v.toList ++ g.stack })
    rw [← hs₂]
    exact hsteps
  · obtain ⟨e2, q2, q3, q4, q5, q6⟩ := id hsm
    have e3 : s₂ = ({ (U.calling g mk a).setFrames s₂.frames with heap := s₂.heap, slotsUsed := s₂.slotsUsed } : State).setVm s₂.vm := by
      have : s₂ = ({ s₂ with vm := (U.calling g mk a).vm } : State).setVm s₂.vm := rfl
      rw [e2] at this
      exact this
    have hf₂ : s₂.frames = .throwing q :: .java g :: U.frames.tail := hend
    have hW' : U.WarmedH s₂.vm := hW₂
    have hs₂ : s₂ = ((({ U with heap := s₂.heap, slotsUsed := s₂.slotsUsed } : State).setVm s₂.vm).setTop g).pushFrame (.throwing q) := by
      refine e3.trans ?_
      rw [hf₂, State.calling_eq h.top, State.setFrames_setFrames, State.pushFrame, State.frames_setTop _ hr', State.setTop_of_frames _ hr', State.setFrames_setFrames, hr]
      rfl
    have hsame : U.sameButNew ({ U with heap := s₂.heap, slotsUsed := s₂.slotsUsed } : State) L mc ms := by
      refine ⟨?_, q2, q3, q4, q5, q6⟩
      obtain ⟨t, ht, -⟩ := State.frames_cons hr
      show ({ U with heap := s₂.heap, slotsUsed := s₂.slotsUsed } : State) = { U.setFrames U.frames with heap := s₂.heap, slotsUsed := s₂.slotsUsed }
      rw [State.setFrames_self ht]
    subst hg
    refine Or.inr ⟨q, ⟨(({ U with heap := s₂.heap, slotsUsed := s₂.slotsUsed } : State).setVm s₂.vm), Ls ++ L, c0 + mc, s0 + ms⟩,
      ⟨X.admits, X.cas, X.clock, X.frames, X.room, X.hears, X.method, X.code, (X.here.setHeapUsed s₂.heap s₂.slotsUsed).setVm hW'.alike, X.tail, State.WarmedH.trans X.warmed hW', X.limits, X.bytes, X.same.trans (hsame.setVm s.vm)⟩,
      ⟨g, mk, s₂, L, E, ce, rfl, rfl, hx, hce, hcv, hcl, rfl, hL, rfl, rfl⟩, ?_⟩
    show Steps p.tables e below _ (((({ U with heap := s₂.heap, slotsUsed := s₂.slotsUsed } : State).setVm s₂.vm).setTop g).pushFrame (.throwing q))
    rw [← hs₂]
    exact hsteps
end Payer
section Calls
variable {p : Program} {l : Launch} {e : Env} {R : Room} {s : State} {m : MethodId} {args : Array Value} {below : List Frame} {meth : Method} {c : Code} {T : State} {locs : List Loc} {cells slots : Nat}
theorem vx_callV (X : Stand p l e R s m args below meth c T locs cells slots) (hexec : p.tables.exec = Jvm.exec) {own C : String} {index : Nat} {y : MethodName} {bytes : ByteArray} {maxL : Nat} {ret : Option FieldType}
    (hown : s.vm.findClass own = some m.cls) (hlink : (Cond.methodLink own index y).before args s = true) (hinst : (Cond.instanceMethod y).before args s = true) (hsel : (Cond.selects C y y).before args s = true)
    (hcode : (Cond.code y bytes maxL ret).before args s = true) (hy : y.cls ≠ "java/lang/invoke/MethodHandle" ∧ y.cls ≠ "java/lang/invoke/VarHandle")
    {W9 : Nat} {Pre : Pt → Array Value → Prop} {Post : Pt → Array Value → Option Value → Pt → Prop} {PostX : Pt → Array Value → Addr → Pt → Prop} (hK : vx_Back l R p e below s args y 3 W9 Pre Post PostX)
    {b : Addr} {cellB : Cell} (hcell : T.heap[b]? = some cellB) (hobj : cellB.vm.isStatics = false) (hcls : s.vm.findClass C = some cellB.cls)
    {g : JFrame} (hg : g.method = m) (hsize : g.locals.size = c.maxLocals) {argsL rest : List Value} (hlen : ∀ sig, parseMethodDescriptor y.desc = some sig → argsL.length = sig.parameters.length)
    (hstack : g.stack = argsL.reverse ++ .ref b :: rest) (hW : 2 * g.monitorRoom + (rest.map fun v => v.category).sum ≤ W9) (hdg : decode c.code g.pc = .ok (.invokevirtual index, 3))
    (hpre : ∀ vm₁, s.WarmedH vm₁ → Pre ⟨T.setVm vm₁, locs, cells, slots⟩ (Value.ref b :: argsL).toArray) :
    (∃ (v : Option Value) (vm₁ : Vm) (B : Pt), s.WarmedH vm₁ ∧ Stand p l e R s m args below meth c B.U B.locs B.cells B.slots ∧ Post ⟨T.setVm vm₁, locs, cells, slots⟩ (Value.ref b :: argsL).toArray v B ∧
      ∀ target, Steps p.tables e below (B.U.setTop { g with pc := g.pc + 3, stack := v.toList ++ rest }) target → Steps p.tables e below (T.setTop g) target) ∨
    (∃ (q : Addr) (vm₁ : Vm) (B : Pt), s.WarmedH vm₁ ∧ Stand p l e R s m args below meth c B.U B.locs B.cells B.slots ∧ PostX ⟨T.setVm vm₁, locs, cells, slots⟩ (Value.ref b :: argsL).toArray q B ∧
      Steps p.tables e below (T.setTop g) ((B.U.setTop { g with stack := rest }).pushFrame (.throwing q))) := by
  obtain ⟨mk, methM, hnamed, hmethM, hstM, habM⟩ := Cond.instanceMethod_spec hinst
  obtain ⟨methM', cM, hmethM', -, -, -, -, -, -, hsigM⟩ := Cond.code_spec hnamed hcode
  cases hmethM.symm.trans hmethM'
  obtain ⟨c2, r2, m2, q1, q2, q3, q4, kP, hkP, hkPi⟩ := Cond.selects_spec hsel
  cases hcls.symm.trans q1
  cases (State.methodFound?_of_named hnamed hy).symm.trans q2
  cases hnamed.symm.trans q3
  have hselP : selectMethod e.platform s.vm cellB.cls mk = .method mk := by rw [Launch.admits_selectMethod X.admits]; exact q4
  obtain ⟨vm₁, X₁, hstep₁⟩ := X.invokevirtual hexec hown hlink hnamed hmethM hstM hkP hkPi hy (a := b) (cell := cellB) hcell
    (fun z h => by rw [h] at hobj; cases hobj) hselP hmethM habM hkP hkPi (g := g) hg (argsL := argsL) (rest := rest) (hlen _ hsigM) hstack hdg
  rcases hK m meth c ⟨T.setVm vm₁, locs, cells, slots⟩ { g with stack := rest } (.invokevirtual index) mk (Value.ref b :: argsL).toArray X₁ hg hsize hdg hW (X₁.named hnamed) (hpre vm₁ X₁.warmed) with ⟨v, B, X', hpost, hsteps⟩ | ⟨q, B, X', hpost, hsteps⟩
  · exact Or.inl ⟨v, vm₁, B, X₁.warmed, X', hpost, fun target h => hstep₁ _ fun acts => by rw [doInvoke_state]; exact hsteps.trans h⟩
  · exact Or.inr ⟨q, vm₁, B, X₁.warmed, X', hpost, hstep₁ _ fun acts => by rw [doInvoke_state]; exact hsteps⟩
theorem vx_callS (X : Stand p l e R s m args below meth c T locs cells slots) (hexec : p.tables.exec = Jvm.exec) {own : String} {index : Nat} {y : MethodName} {bytes : ByteArray} {maxL : Nat} {ret : Option FieldType}
    (hown : s.vm.findClass own = some m.cls) (hlink : (Cond.methodLink own index y).before args s = true) (hstat : (Cond.static y).before args s = true) (hinit : (Cond.initialized y.cls).before args s = true)
    (hcode : (Cond.code y bytes maxL ret).before args s = true) (hy : y.cls ≠ "java/lang/invoke/MethodHandle" ∧ y.cls ≠ "java/lang/invoke/VarHandle")
    {W9 : Nat} {Pre : Pt → Array Value → Prop} {Post : Pt → Array Value → Option Value → Pt → Prop} {PostX : Pt → Array Value → Addr → Pt → Prop} (hK : vx_Back l R p e below s args y 3 W9 Pre Post PostX)
    {g : JFrame} (hg : g.method = m) (hsize : g.locals.size = c.maxLocals) {argsL rest : List Value} (hlen : ∀ sig, parseMethodDescriptor y.desc = some sig → argsL.length = sig.parameters.length)
    (hstack : g.stack = argsL.reverse ++ rest) (hW : 2 * g.monitorRoom + (rest.map fun v => v.category).sum ≤ W9) (hdg : decode c.code g.pc = .ok (.invokestatic index, 3))
    (hpre : ∀ vm₁, s.WarmedH vm₁ → Pre ⟨T.setVm vm₁, locs, cells, slots⟩ argsL.toArray) :
    (∃ (v : Option Value) (vm₁ : Vm) (B : Pt), s.WarmedH vm₁ ∧ Stand p l e R s m args below meth c B.U B.locs B.cells B.slots ∧ Post ⟨T.setVm vm₁, locs, cells, slots⟩ argsL.toArray v B ∧
      ∀ target, Steps p.tables e below (B.U.setTop { g with pc := g.pc + 3, stack := v.toList ++ rest }) target → Steps p.tables e below (T.setTop g) target) ∨
    (∃ (q : Addr) (vm₁ : Vm) (B : Pt), s.WarmedH vm₁ ∧ Stand p l e R s m args below meth c B.U B.locs B.cells B.slots ∧ PostX ⟨T.setVm vm₁, locs, cells, slots⟩ argsL.toArray q B ∧
      Steps p.tables e below (T.setTop g) ((B.U.setTop { g with stack := rest }).pushFrame (.throwing q))) := by
  obtain ⟨mk, hnamed⟩ := Cond.code_named hcode
  obtain ⟨methM, cM, hmethM, -, -, -, -, -, -, hsigM⟩ := Cond.code_spec hnamed hcode
  have hstatic : methM.isStatic = true := Cond.static_spec hnamed hmethM hstat
  obtain ⟨kP, hkP, -⟩ := className_of_methodNamed hnamed
  have hinitP : kP.init = .initialized := Cond.initialized_spec (findClass_of_methodNamed hnamed) hkP hinit
  obtain ⟨vm₁, X₁, hstep₁⟩ := X.invokestatic hexec hown hlink hnamed hmethM hstatic hkP hinitP hy (g := g) hg (argsL := argsL) (rest := rest) (hlen _ hsigM) hstack hdg
  rcases hK m meth c ⟨T.setVm vm₁, locs, cells, slots⟩ { g with stack := rest } (.invokestatic index) mk argsL.toArray X₁ hg hsize hdg hW (X₁.named hnamed) (hpre vm₁ X₁.warmed) with ⟨v, B, X', hpost, hsteps⟩ | ⟨q, B, X', hpost, hsteps⟩
  · exact Or.inl ⟨v, vm₁, B, X₁.warmed, X', hpost, fun target h => hstep₁ _ fun acts => by rw [doInvoke_state]; exact hsteps.trans h⟩
  · exact Or.inr ⟨q, vm₁, B, X₁.warmed, X', hpost, hstep₁ _ fun acts => by rw [doInvoke_state]; exact hsteps⟩
end Calls
theorem vx_cls {s : State} {T : State} {vm₁ : Vm} {E : String} {k : ClassId} (hW : s.WarmedH vm₁) (h : (T.setVm vm₁).vm.findClass E = some k) : s.vm.findClass E = some k := by
  have h1 : vm₁.findClass E = some k := h
  rw [hW.alike.findClass] at h1
  exact h1
/-- the method's frame g, with q thrown over it -/
def vx_W (p : Program) (l : Launch) (e : Env) (R : Room) (s : State) (m : MethodId) (args : Array Value) (below : List Frame) (meth : Method) (c : Code) (H : Heap) (locs : List Loc) (cells slots : Nat) (Q : State → Prop) (g : JFrame) (q : Addr) : Prop :=
  ∀ T : State, T.heap = H → Stand p l e R s m args below meth c T locs cells slots → ∃ t, Steps p.tables e below ((T.setTop g).pushFrame (.throwing q)) t ∧ Q t
def vx_Run (p : Program) (l : Launch) (e : Env) (R : Room) (s : State) (m : MethodId) (args : Array Value) (below : List Frame) (meth : Method) (c : Code) (H : Heap) (locs : List Loc) (cells slots mc ms : Nat) (g : JFrame) (rest : List Value) (Qa : State → Outcome → State → Prop) (XC : String → State → State → Prop) (free : Addr → Prop) : Prop :=
  ∀ T : State, T.heap = H → Stand p l e R s m args below meth c T locs cells slots →
    (∃ (v : Option Value) (st₀ t T' : State) (L : List Loc), st₀.heap = H ∧ Stand p l e R s m args below meth c T' (locs ++ L) (cells + mc) (slots + ms) ∧ (∀ q ∈ L, free q.base) ∧ T'.heap = t.heap ∧ T'.vm = t.vm ∧ Qa st₀ (.returned v) t ∧
      Goes p e below T g T' { g with pc := g.pc + 3, stack := v.toList ++ rest }) ∨
    (∃ (q : Addr) (st₀ t T' : State) (L : List Loc) (E : String) (ce : Cell), st₀.heap = H ∧ Stand p l e R s m args below meth c T' (locs ++ L) (cells + mc) (slots + ms) ∧ (∀ z ∈ L, free z.base) ∧ T'.heap = t.heap ∧ T'.vm = t.vm ∧ XC E st₀ t ∧ t.heap[q]? = some ce ∧ ce.vm = .none ∧ s.vm.findClass E = some ce.cls ∧
      Steps p.tables e below (T.setTop g) ((T'.setTop { g with stack := rest }).pushFrame (.throwing q)))
def vx_X {S : Type} (px : S → Prop) (B : String → S → State → Prop) (A : Nat → Prop) : String → State → State → Prop := fun E st t => ∃ u : S, px u ∧ B E u t ∧ va_F A st t
section Runs
variable {p : Program} {l : Launch} {e : Env} {R : Room} {s : State} {m : MethodId} {args : Array Value} {below : List Frame} {meth : Method} {c : Code} {H : Heap} {locs : List Loc} {cells slots : Nat}
variable {y : MethodName} {bytes cc : ByteArray} {maxL nL mc ms n index : Nat} {ret : Option FieldType} {ws : List Cond} {rm : Room} {Pc : Array Value → State → Prop} {Qc : Array Value → State → Outcome → State → Prop} {XC : String → State → State → Prop} {free : Addr → Prop} {Ts : List Cond} {own C : String} {b : Addr} {As rest : List Value} {g : JFrame}
theorem vx_callBack (cb : CallB R s args own index y bytes maxL ret ws rm mc ms n) (hM : vx_Met l y ws rm Pc Qc XC mc ms free) (hbl : FrameBlind Pc) : vx_Back l R p e below s args y 3 8 (PreOf R mc ms Pc) (PostOf Qc mc ms free) (vx_Post XC mc ms free) := by
  obtain ⟨hrc, hrs, hfr, hlo, hws, hcw, -, hini, -⟩ := cb
  exact vx_back (bytes := bytes) (maxL := maxL) (ret := ret) hM hbl hrc hrs hfr hlo hws hcw (fun a' U hW => word_at hW (Or.inl (by first | rfl | simp [Cond.onTables, Cond.keeps, Cond.steady])) hini)
theorem vx_runV (S : CallFix p m c cc nL s args Ts own) (hM : vx_Met l y ws rm Pc Qc XC mc ms free) (cw : CallW R s args own C index y bytes maxL ret ws rm mc ms n) (hp : PreV s H C b Pc As)
    (hg : g.method = m) (hn : As.length = n) (hsize : g.locals.size = nL) (hstack : g.stack = As.reverse ++ .ref b :: rest) (hW : 2 * g.monitorRoom + (rest.map fun v => v.category).sum ≤ 8) (hdg : decode cc g.pc = .ok (.invokevirtual index, 3)) (hf : cells + mc ≤ R.cells ∧ slots + ms ≤ R.slots) :
    vx_Run p l e R s m args below meth c H locs cells slots mc ms g rest (Qc (Value.ref b :: As).toArray) XC free := by
  have hK : vx_Back l R p e below s args y 3 8 (PreOf R mc ms Pc) (PostOf Qc mc ms free) (vx_Post XC mc ms free) := vx_callBack cw.1 hM hp.1
  obtain ⟨⟨-, -, -, -, -, -, hcode, -, hy, hlen, hl⟩, hin, hse⟩ := cw
  obtain ⟨hx, hb, hml, ho, -⟩ := S
  obtain ⟨-, ⟨cellB, hcB, hoB, hclB⟩, hPc⟩ := hp
  intro T hT X
  rcases vx_callV X hx (C := C) (bytes := bytes) (maxL := maxL) (ret := ret) ho hl hin hse hcode hy hK (by rw [hT]; exact hcB) hoB hclB hg (hsize.trans hml.symm) (argsL := As) (rest := rest) (fun sig h => hn.trans (hlen sig h)) hstack hW (by rw [hb]; exact hdg)
    (fun vm₁ hW₁ => ⟨hf.1, hf.2, hPc (T.setVm vm₁) hT hW₁⟩) with ⟨v, vm₁, ⟨U', l2, c2, s2⟩, hW₁, X', ⟨g', mk, t, L, e1, e2, hq, h1, hL, h2, h3⟩, st⟩ | ⟨q, vm₁, ⟨U', l2, c2, s2⟩, hW₁, X', ⟨g', mk, t, L, E, ce, e1, e2, hq, hce, hcv, hcl, h1, hL, h2, h3⟩, st⟩
  · dsimp only [Pt.U, Pt.locs, Pt.cells, Pt.slots] at X' e1 e2 h1 h2 h3 st
    subst h1; subst h2; subst h3
    exact Or.inl ⟨v, (T.setVm vm₁).calling g' mk (Value.ref b :: As).toArray, t, U', L, hT, X', hL, e1, e2, hq, st⟩
  · dsimp only [Pt.U, Pt.locs, Pt.cells, Pt.slots] at X' e1 e2 h1 h2 h3 st hcl
    subst h1; subst h2; subst h3
    exact Or.inr ⟨q, (T.setVm vm₁).calling g' mk (Value.ref b :: As).toArray, t, U', L, E, ce, hT, X', hL, e1, e2, hq, hce, hcv, vx_cls hW₁ hcl, st⟩
theorem vx_runS (S : CallFix p m c cc nL s args Ts own) (hM : vx_Met l y ws rm Pc Qc XC mc ms free) (cw : CallB R s args own index y bytes maxL ret ws rm mc ms n ∧ (Cond.static y).before args s = true) (hp : PreS s H Pc As)
    (hg : g.method = m) (hn : As.length = n) (hsize : g.locals.size = nL) (hstack : g.stack = As.reverse ++ rest) (hW : 2 * g.monitorRoom + (rest.map fun v => v.category).sum ≤ 8) (hdg : decode cc g.pc = .ok (.invokestatic index, 3)) (hf : cells + mc ≤ R.cells ∧ slots + ms ≤ R.slots) :
    vx_Run p l e R s m args below meth c H locs cells slots mc ms g rest (Qc As.toArray) XC free := by
  have hK : vx_Back l R p e below s args y 3 8 (PreOf R mc ms Pc) (PostOf Qc mc ms free) (vx_Post XC mc ms free) := vx_callBack cw.1 hM hp.1
  obtain ⟨⟨-, -, -, -, -, -, hcode, hini, hy, hlen, hl⟩, hstt⟩ := cw
  obtain ⟨hx, hb, hml, ho, -⟩ := S
  intro T hT X
  rcases vx_callS X hx (bytes := bytes) (maxL := maxL) (ret := ret) ho hl hstt hini hcode hy hK hg (hsize.trans hml.symm) (argsL := As) (rest := rest) (fun sig h => hn.trans (hlen sig h)) hstack hW (by rw [hb]; exact hdg)
    (fun vm₁ hW₁ => ⟨hf.1, hf.2, hp.2 (T.setVm vm₁) hT hW₁⟩) with ⟨v, vm₁, ⟨U', l2, c2, s2⟩, hW₁, X', ⟨g', mk, t, L, e1, e2, hq, h1, hL, h2, h3⟩, st⟩ | ⟨q, vm₁, ⟨U', l2, c2, s2⟩, hW₁, X', ⟨g', mk, t, L, E, ce, e1, e2, hq, hce, hcv, hcl, h1, hL, h2, h3⟩, st⟩
  · dsimp only [Pt.U, Pt.locs, Pt.cells, Pt.slots] at X' e1 e2 h1 h2 h3 st
    subst h1; subst h2; subst h3
    exact Or.inl ⟨v, (T.setVm vm₁).calling g' mk As.toArray, t, U', L, hT, X', hL, e1, e2, hq, st⟩
  · dsimp only [Pt.U, Pt.locs, Pt.cells, Pt.slots] at X' e1 e2 h1 h2 h3 st hcl
    subst h1; subst h2; subst h3
    exact Or.inr ⟨q, (T.setVm vm₁).calling g' mk As.toArray, t, U', L, E, ce, hT, X', hL, e1, e2, hq, hce, hcv, vx_cls hW₁ hcl, st⟩
end Runs
section Rows
variable {p : Program} {l : Launch} {e : Env} {R : Room} {s : State} {m : MethodId} {args : Array Value} {below : List Frame} {meth : Method} {c : Code} {H : Heap} {locs : List Loc} {cells slots : Nat} {Q : State → Prop}
variable {mc ms : Nat} {free : Addr → Prop} {A0 A1 : Nat → Prop} {H0 : Heap} {a : Array Value} {pc : Nat} {ls : Array Slot} {st0 rest : List Value}
theorem vx_keep {st₀ t T' : State} {L : List Loc} (h0 : st₀.heap = H) (e1 : T'.heap = t.heap) (hS : va_S A0 H0 H locs) (hA : ∀ q, q < H.size → A1 q → A0 q) (hf : ∀ q, free q → A0 q) (hL : ∀ q ∈ L, free q.base) (hF : va_F A1 st₀ t) :
    H.size ≤ T'.heap.size ∧ (∀ q : Nat, q < H.size → ¬ A1 q → T'.heap[q]? = H[q]?) ∧ va_S A0 H0 T'.heap (locs ++ L) := by
  obtain ⟨hz, hk⟩ := hF
  rw [h0] at hz hk
  exact ⟨by rw [e1]; exact hz, fun q h1 h2 => by rw [e1]; exact hk q h1 h2,
    ⟨Nat.le_trans hS.1 (by rw [e1]; exact hz), fun q h1 h2 => by rw [e1, hk q (Nat.lt_of_lt_of_le h1 hS.1) (fun z => h2 (hA q (Nat.lt_of_lt_of_le h1 hS.1) z))]; exact hS.2.1 q h1 h2, fun q hq => by
      rcases List.mem_append.mp hq with h | h
      · exact hS.2.2 q h
      · exact hf _ (hL q h)⟩⟩
theorem vx_calli {S SX : Type} {post : Int32 → S → Prop} {px : SX → Prop} {B : S → State → Prop} {BX : String → SX → State → Prop} {AX : Nat → Prop} (hr : vx_Run p l e R s m args below meth c H locs cells slots mc ms (F0 m pc ls st0) rest (va_Qi post B A1 a) (vx_X px BX AX) free) (hS : va_S A0 H0 H locs) (hA : ∀ q, q < H.size → A1 q → A0 q) (hf : ∀ q, free q → A0 q) (hAX : ∀ q, q < H.size → AX q → A0 q)
    (kx : ∀ (E : String) (ce : Cell) (q9 : Addr) (u : SX) (t : State) (H1 : Heap) (locs1 : List Loc), t.heap = H1 → s.vm.Alike t.vm → px u → BX E u t → H.size ≤ H1.size → (∀ q : Nat, q < H.size → ¬ AX q → H1[q]? = H[q]?) → va_S A0 H0 H1 locs1 → H1[q9]? = some ce → ce.vm = .none → s.vm.findClass E = some ce.cls → vx_W p l e R s m args below meth c H1 locs1 (cells + mc) (slots + ms) Q (F0 m pc ls rest) q9)
    (kk : ∀ (r : Int32) (u : S) (t : State) (H1 : Heap) (locs1 : List Loc), t.heap = H1 → s.vm.Alike t.vm → post r u → B u t → H.size ≤ H1.size → (∀ q : Nat, q < H.size → ¬ A1 q → H1[q]? = H[q]?) → va_S A0 H0 H1 locs1 → W p l e R s m args below meth c H1 locs1 (cells + mc) (slots + ms) Q (F0 m (pc + 3) ls (.int r :: rest))) : W p l e R s m args below meth c H locs cells slots Q (F0 m pc ls st0) := by
  intro T hT X
  rcases hr T hT X with ⟨v, st₀, t, T', L, h0, X', hL, e1, e2, ⟨⟨r, u, hv, hp, hb⟩, hF⟩, st⟩ | ⟨q, st₀, t, T', L, E, ce, h0, X', hL, e1, e2, ⟨u, hp, hb, hF⟩, hce, hcv, hcl, st⟩
  · cases hv
    obtain ⟨k1, k2, k3⟩ := vx_keep h0 e1 hS hA hf hL hF
    obtain ⟨t2, a1, b1⟩ := kk r u t T'.heap (locs ++ L) e1.symm (by rw [← e2]; exact X'.warmed.alike) hp hb k1 k2 k3 T' rfl X'
    exact ⟨t2, st t2 a1, b1⟩
  · obtain ⟨k1, k2, k3⟩ := vx_keep h0 e1 hS hAX hf hL hF
    obtain ⟨t2, a1, b1⟩ := kx E ce q u t T'.heap (locs ++ L) e1.symm (by rw [← e2]; exact X'.warmed.alike) hp hb k1 k2 k3 (by rw [e1]; exact hce) hcv hcl T' rfl X'
    exact ⟨t2, st.trans a1, b1⟩
theorem vx_calll {S SX : Type} {post : Int64 → S → Prop} {px : SX → Prop} {B : S → State → Prop} {BX : String → SX → State → Prop} {AX : Nat → Prop} (hr : vx_Run p l e R s m args below meth c H locs cells slots mc ms (F0 m pc ls st0) rest (va_Ql post B A1 a) (vx_X px BX AX) free) (hS : va_S A0 H0 H locs) (hA : ∀ q, q < H.size → A1 q → A0 q) (hf : ∀ q, free q → A0 q) (hAX : ∀ q, q < H.size → AX q → A0 q)
    (kx : ∀ (E : String) (ce : Cell) (q9 : Addr) (u : SX) (t : State) (H1 : Heap) (locs1 : List Loc), t.heap = H1 → s.vm.Alike t.vm → px u → BX E u t → H.size ≤ H1.size → (∀ q : Nat, q < H.size → ¬ AX q → H1[q]? = H[q]?) → va_S A0 H0 H1 locs1 → H1[q9]? = some ce → ce.vm = .none → s.vm.findClass E = some ce.cls → vx_W p l e R s m args below meth c H1 locs1 (cells + mc) (slots + ms) Q (F0 m pc ls rest) q9)
    (kk : ∀ (r : Int64) (u : S) (t : State) (H1 : Heap) (locs1 : List Loc), t.heap = H1 → s.vm.Alike t.vm → post r u → B u t → H.size ≤ H1.size → (∀ q : Nat, q < H.size → ¬ A1 q → H1[q]? = H[q]?) → va_S A0 H0 H1 locs1 → W p l e R s m args below meth c H1 locs1 (cells + mc) (slots + ms) Q (F0 m (pc + 3) ls (.long r :: rest))) : W p l e R s m args below meth c H locs cells slots Q (F0 m pc ls st0) := by
  intro T hT X
  rcases hr T hT X with ⟨v, st₀, t, T', L, h0, X', hL, e1, e2, ⟨⟨r, u, hv, hp, hb⟩, hF⟩, st⟩ | ⟨q, st₀, t, T', L, E, ce, h0, X', hL, e1, e2, ⟨u, hp, hb, hF⟩, hce, hcv, hcl, st⟩
  · cases hv
    obtain ⟨k1, k2, k3⟩ := vx_keep h0 e1 hS hA hf hL hF
    obtain ⟨t2, a1, b1⟩ := kk r u t T'.heap (locs ++ L) e1.symm (by rw [← e2]; exact X'.warmed.alike) hp hb k1 k2 k3 T' rfl X'
    exact ⟨t2, st t2 a1, b1⟩
  · obtain ⟨k1, k2, k3⟩ := vx_keep h0 e1 hS hAX hf hL hF
    obtain ⟨t2, a1, b1⟩ := kx E ce q u t T'.heap (locs ++ L) e1.symm (by rw [← e2]; exact X'.warmed.alike) hp hb k1 k2 k3 (by rw [e1]; exact hce) hcv hcl T' rfl X'
    exact ⟨t2, st.trans a1, b1⟩
theorem vx_callf {S SX : Type} {post : UInt32 → S → Prop} {px : SX → Prop} {B : S → State → Prop} {BX : String → SX → State → Prop} {AX : Nat → Prop} (hr : vx_Run p l e R s m args below meth c H locs cells slots mc ms (F0 m pc ls st0) rest (va_Qf post B A1 a) (vx_X px BX AX) free) (hS : va_S A0 H0 H locs) (hA : ∀ q, q < H.size → A1 q → A0 q) (hf : ∀ q, free q → A0 q) (hAX : ∀ q, q < H.size → AX q → A0 q)
    (kx : ∀ (E : String) (ce : Cell) (q9 : Addr) (u : SX) (t : State) (H1 : Heap) (locs1 : List Loc), t.heap = H1 → s.vm.Alike t.vm → px u → BX E u t → H.size ≤ H1.size → (∀ q : Nat, q < H.size → ¬ AX q → H1[q]? = H[q]?) → va_S A0 H0 H1 locs1 → H1[q9]? = some ce → ce.vm = .none → s.vm.findClass E = some ce.cls → vx_W p l e R s m args below meth c H1 locs1 (cells + mc) (slots + ms) Q (F0 m pc ls rest) q9)
    (kk : ∀ (r : UInt32) (u : S) (t : State) (H1 : Heap) (locs1 : List Loc), t.heap = H1 → s.vm.Alike t.vm → post r u → B u t → H.size ≤ H1.size → (∀ q : Nat, q < H.size → ¬ A1 q → H1[q]? = H[q]?) → va_S A0 H0 H1 locs1 → W p l e R s m args below meth c H1 locs1 (cells + mc) (slots + ms) Q (F0 m (pc + 3) ls (.float r :: rest))) : W p l e R s m args below meth c H locs cells slots Q (F0 m pc ls st0) := by
  intro T hT X
  rcases hr T hT X with ⟨v, st₀, t, T', L, h0, X', hL, e1, e2, ⟨⟨r, u, hv, hp, hb⟩, hF⟩, st⟩ | ⟨q, st₀, t, T', L, E, ce, h0, X', hL, e1, e2, ⟨u, hp, hb, hF⟩, hce, hcv, hcl, st⟩
  · cases hv
    obtain ⟨k1, k2, k3⟩ := vx_keep h0 e1 hS hA hf hL hF
    obtain ⟨t2, a1, b1⟩ := kk r u t T'.heap (locs ++ L) e1.symm (by rw [← e2]; exact X'.warmed.alike) hp hb k1 k2 k3 T' rfl X'
    exact ⟨t2, st t2 a1, b1⟩
  · obtain ⟨k1, k2, k3⟩ := vx_keep h0 e1 hS hAX hf hL hF
    obtain ⟨t2, a1, b1⟩ := kx E ce q u t T'.heap (locs ++ L) e1.symm (by rw [← e2]; exact X'.warmed.alike) hp hb k1 k2 k3 (by rw [e1]; exact hce) hcv hcl T' rfl X'
    exact ⟨t2, st.trans a1, b1⟩
theorem vx_calld {S SX : Type} {post : UInt64 → S → Prop} {px : SX → Prop} {B : S → State → Prop} {BX : String → SX → State → Prop} {AX : Nat → Prop} (hr : vx_Run p l e R s m args below meth c H locs cells slots mc ms (F0 m pc ls st0) rest (va_Qd post B A1 a) (vx_X px BX AX) free) (hS : va_S A0 H0 H locs) (hA : ∀ q, q < H.size → A1 q → A0 q) (hf : ∀ q, free q → A0 q) (hAX : ∀ q, q < H.size → AX q → A0 q)
    (kx : ∀ (E : String) (ce : Cell) (q9 : Addr) (u : SX) (t : State) (H1 : Heap) (locs1 : List Loc), t.heap = H1 → s.vm.Alike t.vm → px u → BX E u t → H.size ≤ H1.size → (∀ q : Nat, q < H.size → ¬ AX q → H1[q]? = H[q]?) → va_S A0 H0 H1 locs1 → H1[q9]? = some ce → ce.vm = .none → s.vm.findClass E = some ce.cls → vx_W p l e R s m args below meth c H1 locs1 (cells + mc) (slots + ms) Q (F0 m pc ls rest) q9)
    (kk : ∀ (r : UInt64) (u : S) (t : State) (H1 : Heap) (locs1 : List Loc), t.heap = H1 → s.vm.Alike t.vm → post r u → B u t → H.size ≤ H1.size → (∀ q : Nat, q < H.size → ¬ A1 q → H1[q]? = H[q]?) → va_S A0 H0 H1 locs1 → W p l e R s m args below meth c H1 locs1 (cells + mc) (slots + ms) Q (F0 m (pc + 3) ls (.double r :: rest))) : W p l e R s m args below meth c H locs cells slots Q (F0 m pc ls st0) := by
  intro T hT X
  rcases hr T hT X with ⟨v, st₀, t, T', L, h0, X', hL, e1, e2, ⟨⟨r, u, hv, hp, hb⟩, hF⟩, st⟩ | ⟨q, st₀, t, T', L, E, ce, h0, X', hL, e1, e2, ⟨u, hp, hb, hF⟩, hce, hcv, hcl, st⟩
  · cases hv
    obtain ⟨k1, k2, k3⟩ := vx_keep h0 e1 hS hA hf hL hF
    obtain ⟨t2, a1, b1⟩ := kk r u t T'.heap (locs ++ L) e1.symm (by rw [← e2]; exact X'.warmed.alike) hp hb k1 k2 k3 T' rfl X'
    exact ⟨t2, st t2 a1, b1⟩
  · obtain ⟨k1, k2, k3⟩ := vx_keep h0 e1 hS hAX hf hL hF
    obtain ⟨t2, a1, b1⟩ := kx E ce q u t T'.heap (locs ++ L) e1.symm (by rw [← e2]; exact X'.warmed.alike) hp hb k1 k2 k3 (by rw [e1]; exact hce) hcv hcl T' rfl X'
    exact ⟨t2, st.trans a1, b1⟩
theorem vx_callv {S SX : Type} {post : S → Prop} {px : SX → Prop} {B : S → State → Prop} {BX : String → SX → State → Prop} {AX : Nat → Prop} (hr : vx_Run p l e R s m args below meth c H locs cells slots mc ms (F0 m pc ls st0) rest (va_Qv post B A1 a) (vx_X px BX AX) free) (hS : va_S A0 H0 H locs) (hA : ∀ q, q < H.size → A1 q → A0 q) (hf : ∀ q, free q → A0 q) (hAX : ∀ q, q < H.size → AX q → A0 q)
    (kx : ∀ (E : String) (ce : Cell) (q9 : Addr) (u : SX) (t : State) (H1 : Heap) (locs1 : List Loc), t.heap = H1 → s.vm.Alike t.vm → px u → BX E u t → H.size ≤ H1.size → (∀ q : Nat, q < H.size → ¬ AX q → H1[q]? = H[q]?) → va_S A0 H0 H1 locs1 → H1[q9]? = some ce → ce.vm = .none → s.vm.findClass E = some ce.cls → vx_W p l e R s m args below meth c H1 locs1 (cells + mc) (slots + ms) Q (F0 m pc ls rest) q9)
    (kk : ∀ (u : S) (t : State) (H1 : Heap) (locs1 : List Loc), t.heap = H1 → s.vm.Alike t.vm → post u → B u t → H.size ≤ H1.size → (∀ q : Nat, q < H.size → ¬ A1 q → H1[q]? = H[q]?) → va_S A0 H0 H1 locs1 → W p l e R s m args below meth c H1 locs1 (cells + mc) (slots + ms) Q (F0 m (pc + 3) ls (rest))) : W p l e R s m args below meth c H locs cells slots Q (F0 m pc ls st0) := by
  intro T hT X
  rcases hr T hT X with ⟨v, st₀, t, T', L, h0, X', hL, e1, e2, ⟨⟨u, hv, hp, hb⟩, hF⟩, st⟩ | ⟨q, st₀, t, T', L, E, ce, h0, X', hL, e1, e2, ⟨u, hp, hb, hF⟩, hce, hcv, hcl, st⟩
  · cases hv
    obtain ⟨k1, k2, k3⟩ := vx_keep h0 e1 hS hA hf hL hF
    obtain ⟨t2, a1, b1⟩ := kk u t T'.heap (locs ++ L) e1.symm (by rw [← e2]; exact X'.warmed.alike) hp hb k1 k2 k3 T' rfl X'
    exact ⟨t2, st t2 a1, b1⟩
  · obtain ⟨k1, k2, k3⟩ := vx_keep h0 e1 hS hAX hf hL hF
    obtain ⟨t2, a1, b1⟩ := kx E ce q u t T'.heap (locs ++ L) e1.symm (by rw [← e2]; exact X'.warmed.alike) hp hb k1 k2 k3 (by rw [e1]; exact hce) hcv hcl T' rfl X'
    exact ⟨t2, st.trans a1, b1⟩
/-- caught by the row x of this method's table; the rows ahead don't take it -/
theorem vx_catch {own name : String} {E : String} {ce : Cell} {q : Addr} (hown : s.vm.findClass own = some m.cls) (pre : List ExceptionTableEntry) (x : ExceptionTableEntry) (suf : List ExceptionTableEntry) (hsplit : c.exceptionTable.toList = pre ++ x :: suf)
    (hpass : ∀ z ∈ pre, covers z pc = false ∨ (z.catchType ≠ 0 ∧ ∃ nm : String, (Cond.classLink own z.catchType nm).before args s = true ∧ va_Nc E nm s)) (hx : covers x pc = true) (h0 : x.catchType ≠ 0)
    (hlink : (Cond.classLink own x.catchType name).before args s = true) (hcast : (Cond.castable E name).before args s = true) (hcell : H[q]? = some ce) (hv : ce.vm = .none) (hcl : s.vm.findClass E = some ce.cls)
    (kk : W p l e R s m args below meth c H locs cells slots Q (F0 m x.handlerPc ls [.ref q])) : vx_W p l e R s m args below meth c H locs cells slots Q (F0 m pc ls rest) q := by
  intro T hT X
  have hpl : e.platform.magicAccessors = ({} : Platform).magicAccessors := by rw [X.admits.platform]
  obtain ⟨c3, c4, hc3, hc4, hasg⟩ := Cond.castable_spec hcast
  cases Option.some.inj (hc3.symm.trans hcl)
  obtain ⟨c5, hc5, hcl5⟩ := Cond.classLink_spec hown hlink e.platform hpl
  cases Option.some.inj (hc4.symm.trans hc5)
  obtain ⟨vm', X', st⟩ := X.thenCaughtThrough q (g := F0 m pc ls rest) rfl (Steps.refl _) (by rw [hT]; exact hcell) (by rw [hv]; rfl) (by obtain ⟨k9, h9, -⟩ := Vm.findClass_spec hcl; exact ⟨k9, h9⟩) pre x suf hsplit
    (fun z hz => by
      rcases hpass z hz with h | ⟨hz0, nm, hl1, hn1⟩
      · exact Or.inl h
      · obtain ⟨c6, hc6, hcl6⟩ := Cond.classLink_spec hown hl1 e.platform hpl
        obtain ⟨a8, b8, h1, h2, h3⟩ := hn1
        cases Option.some.inj (h1.symm.trans hcl)
        cases Option.some.inj (h2.symm.trans hc6)
        exact Or.inr ⟨hz0, _, hcl6, h3⟩) hx (Or.inr ⟨h0, c4, hcl5, hasg⟩)
  obtain ⟨t, a1, b1⟩ := kk (T.setVm vm') hT X'
  exact ⟨t, st.trans a1, b1⟩
end Rows
section Ends
variable {p : Program} {l : Launch} {e : Env} {R : Room} {s : State} {m : MethodId} {args : Array Value} {below : List Frame} {meth : Method} {c : Code} {H : Heap} {locs : List Loc} {cells slots : Nat} {Q : State → Prop}
variable {mc ms : Nat} {free : Addr → Prop} {A0 A1 : Nat → Prop} {H0 : Heap} {a : Array Value} {ls : Array Slot} {st0 rest : List Value}
variable {Qc : Array Value → State → Outcome → State → Prop} {XC : String → State → State → Prop}
/-- what a body that may throw owes at its end -/
def vx_MQ (below : List Frame) (Qc : Array Value → State → Outcome → State → Prop) (XC : String → State → State → Prop) (a : Array Value) (s : State) (mc ms : Nat) (free : Addr → Prop) : State → Prop := fun t =>
  ∃ o, t.status = .running ∧ Ended t below o ∧ vx_Q Qc XC mc ms free a s o t
theorem vx_ret {g : JFrame} {mc ms : Nat} (k : W p l e R s m args below meth c H locs cells slots (MQ below Qc args s mc ms free) g) : W p l e R s m args below meth c H locs cells slots (vx_MQ below Qc XC args s mc ms free) g := by
  intro T hT X
  obtain ⟨t, a1, o, b1, b2, b3, b4⟩ := k T hT X
  exact ⟨t, a1, o, b1, b2, Or.inl ⟨b3, b4⟩⟩
/-- not caught here: it goes on to the caller -/
theorem vx_widen {g : JFrame} {q : Addr} {k n : Nat} (h1 : cells ≤ k) (h2 : slots ≤ n) (kk : vx_W p l e R s m args below meth c H locs k n Q g q) : vx_W p l e R s m args below meth c H locs cells slots Q g q := fun T hT X => kk T hT (stand_widen X h1 h2)
theorem vx_out {pc : Nat} {E : String} {ce : Cell} {q : Addr} {mc ms : Nat} (hout : ∀ x ∈ c.exceptionTable.toList, covers x pc = false) (hlocks : meth.locks = false) (hcell : H[q]? = some ce) (hv : ce.vm = .none) (hcl : s.vm.findClass E = some ce.cls)
    (hx : ∀ t : State, t.heap = H → s.vm.Alike t.vm → XC E s t) (hf : ∀ z ∈ locs, free z.base) (hc : cells ≤ mc) (hs : slots ≤ ms) :
    vx_W p l e R s m args below meth c H locs cells slots (vx_MQ below Qc XC args s mc ms free) (F0 m pc ls rest) q := by
  intro T hT X
  obtain ⟨st1, hrun, hend, hW, hsm⟩ := X.leaveThrown q (g := F0 m pc ls rest) rfl rfl rfl hout hlocks
  have hcell9 : (T.setFrames (.throwing q :: below)).heap[q]? = some ce := by
    show T.heap[q]? = some ce
    rw [hT]; exact hcell
  exact ⟨_, st1, .threw q, hrun, hend, Or.inr ⟨q, rfl, E, ce, locs, hx _ hT hW.alike, hcell9, hv, hcl, hW, hsm.mono hc hs, hf⟩⟩
theorem vx_frame {U : State} {k n : Nat} (h : s.sameButNew ({ U with vm := s.vm } : State) locs k n) : s.heap.size ≤ U.heap.size ∧ ∀ q : Nat, q < s.heap.size → (∀ z ∈ locs, z.base ≠ q) → U.heap[q]? = s.heap[q]? := by
  obtain ⟨-, h2, -, -, -, h6⟩ := h
  refine ⟨h2, fun q hq hz => ?_⟩
  obtain ⟨c9, e1, e2, e3, e4⟩ := h6 q _ (Array.getElem?_eq_getElem hq)
  have hs : c9.slots = (s.heap[q]).slots := Array.ext_getElem? fun i => e4 i fun hm => hz _ hm rfl
  have h9 : c9 = s.heap[q] := by
    rw [hs] at e2
    exact e2
  have e5 : U.heap[q]? = some c9 := e1
  rw [e5, h9, Array.getElem?_eq_getElem hq]
/-- the words of a throw but the four that speak of the heap -/
def vx_no (w : Cond) : Bool := decide (w ≠ .isRef (.static Bundle.tN "UNASSIGNED_STACK" Bundle.steD)) && decide (w ≠ .isRef (.static Bundle.tN "SUPPRESSED_SENTINEL" Bundle.listD)) && decide (w ≠ .laysStatic Bundle.tN "UNASSIGNED_STACK" Bundle.steD) && decide (w ≠ .laysStatic Bundle.tN "SUPPRESSED_SENTINEL" Bundle.listD)
def vx_at0 (own : String) (ic : Nat) (X : String) (names : List String) : List Cond := (Bundle.ownAtoms0 own ic X names).filter vx_no
def vx_atS (own : String) (ic : Nat) (X : String) (names : List String) : List Cond := (Bundle.ownAtoms own ic X names).filter vx_no
/-- a word that the tables alone decide, or a good one -/
def vx_ot (w : Cond) : Bool := w.onTables || goodWord w
theorem vx_ot_at {args a' : Array Value} {s U : State} {w : Cond} (hW : s.WarmedH U.vm) (hvm : s.vm = U.vm) (hg : vx_ot w = true) (h : w.before args s = true) : w.before a' U = true := by
  simp only [vx_ot, Bool.or_eq_true] at hg
  rcases hg with hg | hg
  · exact va_tabs hg hvm h
  · exact word_at hW (good_of_word hg) h
/-- a list's words: the good ones out of the method's own list, the others by premises of their own -/
theorem vx_hat {args : Array Value} {s : State} {L B : List Cond} (h1 : ∀ w ∈ L.filter goodWord, w.before args s = true) (h2 : ∀ w ∈ L.filter (fun w => !goodWord w), w ∈ B) (h3 : ∀ w ∈ B, w.before args s = true) : ∀ w ∈ L, w.before args s = true := by
  intro w hw
  by_cases g : goodWord w = true
  · exact h1 w (List.mem_filter.mpr ⟨hw, g⟩)
  · refine h3 w (h2 w (List.mem_filter.mpr ⟨hw, ?_⟩))
    show (!goodWord w) = true
    cases hgw : goodWord w
    · rfl
    · exact absurd hgw g
theorem vx_c {args : Array Value} {s : State} {w : Cond} {B : List Cond} (h : w.before args s = true) (t : ∀ w ∈ B, w.before args s = true) : ∀ w' ∈ w :: B, w'.before args s = true := fun w' h' => (List.mem_cons.mp h').elim (fun e => by rw [e]; exact h) (t w')
theorem vx_n {args : Array Value} {s : State} : ∀ w ∈ ([] : List Cond), w.before args s = true := fun _ h => nomatch h
theorem vx_own {args : Array Value} {s : State} {L : List Cond} (h1 : ∀ w ∈ L.filter vx_no, w.before args s = true)
    (hU : (Cond.isRef (.static Bundle.tN "UNASSIGNED_STACK" Bundle.steD)).before args s = true) (hN : (Cond.isRef (.static Bundle.tN "SUPPRESSED_SENTINEL" Bundle.listD)).before args s = true)
    (lU : (Cond.laysStatic Bundle.tN "UNASSIGNED_STACK" Bundle.steD).before args s = true) (lN : (Cond.laysStatic Bundle.tN "SUPPRESSED_SENTINEL" Bundle.listD).before args s = true) : ∀ w ∈ L, w.before args s = true := by
  intro w hw
  by_cases e1 : w = .isRef (.static Bundle.tN "UNASSIGNED_STACK" Bundle.steD)
  · rw [e1]; exact hU
  · by_cases e2 : w = .isRef (.static Bundle.tN "SUPPRESSED_SENTINEL" Bundle.listD)
    · rw [e2]; exact hN
    · by_cases e3 : w = .laysStatic Bundle.tN "UNASSIGNED_STACK" Bundle.steD
      · rw [e3]; exact lU
      · by_cases e4 : w = .laysStatic Bundle.tN "SUPPRESSED_SENTINEL" Bundle.listD
        · rw [e4]; exact lN
        · exact h1 w (List.mem_filter.mpr ⟨hw, by unfold vx_no; rw [decide_eq_true e1, decide_eq_true e2, decide_eq_true e3, decide_eq_true e4]; rfl⟩)
/-- where a static field lies, its class's statics cell in H -/
def vx_L (C n d : String) (A : Nat → Prop) (U : State) (H : Heap) : Prop := ∃ (c : ClassId) (k : Class) (i : Nat) (f : Field) (a : Nat) (cell : Cell), U.vm.findClass C = some c ∧ U.fieldFound? C n d = some (c, k, i, f) ∧ f.isStatic = true ∧ k.statics = some a ∧ H[a]? = some cell ∧ cell.vm.isStatics = true ∧ cell.cls = c ∧ f.slot < cell.slots.size ∧ k.staticTypes[f.slot]? = some f.type ∧ ¬ A a
theorem vx_L.moved {C n d : String} {A : Nat → Prop} {u U : State} {H : Heap} (hvm : u.vm.Alike U.vm) (h : vx_L C n d A u H) : vx_L C n d A U H := by
  obtain ⟨c, k, i, f, a, cell, h1, h2, h3, h4, h5, h6, h7, h8, h9, h10⟩ := h
  obtain ⟨k', hi', he⟩ := State.fieldFound?_setVm hvm h2
  exact ⟨c, k', i, f, a, cell, by rw [hvm.findClass]; exact h1, hi', h3, by rw [he]; exact h4, h5, h6, h7, h8, by rw [he]; exact h9, h10⟩
theorem vx_L.kept {C n d : String} {A : Nat → Prop} {U : State} {H H1 : Heap} (h : vx_L C n d A U H) (hq : ∀ a : Nat, a < H.size → ¬ A a → H1[a]? = H[a]?) : vx_L C n d A U H1 := by
  obtain ⟨c, k, i, f, a, cell, h1, h2, h3, h4, h5, h6, h7, h8, h9, h10⟩ := h
  exact ⟨c, k, i, f, a, cell, h1, h2, h3, h4, by rw [hq a (Array.getElem?_eq_some_iff.mp h5).1 h10]; exact h5, h6, h7, h8, h9, h10⟩
theorem vx_L.narrow {C n d : String} {A B : Nat → Prop} {U : State} {H : Heap} (h : vx_L C n d A U H) (hAB : ∀ q, B q → A q) : vx_L C n d B U H := by
  obtain ⟨c, k, i, f, a, cell, h1, h2, h3, h4, h5, h6, h7, h8, h9, h10⟩ := h
  exact ⟨c, k, i, f, a, cell, h1, h2, h3, h4, h5, h6, h7, h8, h9, fun z => h10 (hAB _ z)⟩
theorem vx_L.word {C n d : String} {A : Nat → Prop} {s : State} {args : Array Value} (h : vx_L C n d A s s.heap) : (Cond.laysStatic C n d).before args s = true := by
  obtain ⟨c, k, i, f, a, cell, h1, h2, h3, h4, h5, h6, h7, h8, h9, -⟩ := h
  show (Cond.laysStatic C n d).holds args s none s [] = true
  exact Cond.laysStatic_of h1 h2 h3 h4 h5 h6 h7 h8 h9
/-- .. and what it holds: null or some reference -/
def vx_Zq (C n d : String) (A : Nat → Prop) (U : State) (H : Heap) : Prop := va_Zq C n d A U H ∧ vx_L C n d A U H
theorem vx_Zq.moved {C n d : String} {A : Nat → Prop} {u U : State} {H : Heap} (hvm : u.vm.Alike U.vm) (h : vx_Zq C n d A u H) : vx_Zq C n d A U H := ⟨va_Zq.moved hvm h.1, vx_L.moved hvm h.2⟩
theorem vx_Zq.kept {C n d : String} {A : Nat → Prop} {U : State} {H H1 : Heap} (h : vx_Zq C n d A U H) (hq : ∀ a : Nat, a < H.size → ¬ A a → H1[a]? = H[a]?) : vx_Zq C n d A U H1 := ⟨va_Zq.kept h.1 hq, vx_L.kept h.2 hq⟩
theorem vx_Zq.narrow {C n d : String} {A B : Nat → Prop} {U : State} {H : Heap} (h : vx_Zq C n d A U H) (hAB : ∀ q, B q → A q) : vx_Zq C n d B U H := ⟨va_Zq.narrow h.1 hAB, vx_L.narrow h.2 hAB⟩
theorem vx_Zqof {args : Array Value} {s : State} {C n d : String} {A : Nat → Prop} (hl : (Cond.laysStatic C n d).before args s = true) (hini : (Cond.initialized C).before args s = true) (h : (Cond.isRef (.static C n d)).before args s = true) (hA : ∀ a : Nat, a < s.heap.size → ¬ A a) : vx_Zq C n d A s s.heap := by
  refine ⟨va_Zqof hl hini h hA, ?_⟩
  obtain ⟨c, k, i, f, a, cell, h1, h2, h3, h4, h5, h6, h7, h8, h9⟩ := Cond.laysStatic_spec hl
  exact ⟨c, k, i, f, a, cell, h1, h2, h3, h4, h5, h6, h7, h8, h9, hA a (Array.getElem?_eq_some_iff.mp h5).1⟩
theorem vx_isRef {C n d : String} {v : Value} {A : Nat → Prop} {s : State} {args : Array Value} (h : va_Z C n d v A s s.heap) (hv : v.isRef = true) : (Cond.isRef (.static C n d)).before args s = true := by
  obtain ⟨cf, kf, fi, f, a, cell, h1, h2, h3, h4, h5, h6, h7, -⟩ := h
  have he : (Term.static C n d).eval args s none [] s = some v := by
    simp [Term.eval, State.fieldNamed?, h1, h2, h4, h5, h6, h7]
  simp only [Cond.before, Cond.holds, Cond.value, he]
  cases v <;> simp_all [Value.isRef]
theorem vx_isRefq {C n d : String} {A : Nat → Prop} {s : State} {args : Array Value} (h : va_Zq C n d A s s.heap) : (Cond.isRef (.static C n d)).before args s = true := by
  rcases h with h | ⟨t, h⟩
  · exact vx_isRef h rfl
  · exact vx_isRef h rfl
/-- the same frame, seen from here: as if the method were called anew in this heap -/
theorem vx_rebase {T : State} (X : Stand p l e R s m args below meth c T locs cells slots) {R' : Room} (hf : R'.frames ≤ R.frames) (hl : R'.locals ≤ R.locals) (hc : cells + R'.cells ≤ R.cells) (hs : slots + R'.slots ≤ R.slots) :
    Stand p l e R' ((T.setVm s.vm).setFrames (.invoking m args :: below)) m args below meth c T [] 0 0 := by
  have htop : (T.setVm s.vm).topJava?.isSome := X.here.top
  have hF : ((T.setVm s.vm).setFrames (.invoking m args :: below)).frames = .invoking m args :: below := State.frames_setFrames _ (State.cur_lt_of_top htop)
  obtain ⟨g₀, hg0⟩ := Option.isSome_iff_exists.mp htop
  obtain ⟨r, hr⟩ := State.topJava?_eq_some.mp hg0
  have hl9 : e.platform.stackLimits (T.setVm s.vm).me = e.platform.stackLimits s.me := X.limits
  have hb9 : (T.setVm s.vm).me.stackBytes = s.me.stackBytes := X.bytes
  refine ⟨X.admits, X.cas, X.clock, hF, ?_, X.hears, X.method, X.code, X.here, X.tail, X.warmed, ?_, ?_, ?_⟩
  · have h := X.room
    have hU : ((T.setVm s.vm).setFrames (.invoking m args :: below)).localsInUse = s.localsInUse := by
      rw [State.localsInUse_invoking hF (meth := meth) (c := c) X.method X.code, State.localsInUse_invoking X.frames X.method X.code]
    simp only [State.hasRoom, Bool.and_eq_true, decide_eq_true_eq] at h ⊢
    obtain ⟨⟨⟨⟨h1, h2, h3, h4, h5, h6⟩, h7⟩, h8⟩, h9⟩ := h
    rw [X.frames, List.length_cons] at h2 h3
    have q1 := X.heapSize
    have q2 := X.used
    simp only [hF, hU, List.length_cons, State.stackLimits_setFrames, State.stackBytes_setFrames, hl9, hb9]
    refine ⟨⟨⟨⟨by omega, by omega, by omega, by omega, by omega, h6⟩, ?_⟩, ?_⟩, X.book⟩
    · show T.heap.size + R'.cells ≤ e.platform.maxCells
      omega
    · show T.slotsUsed + R'.slots ≤ e.platform.maxSlots
      omega
  · rw [State.stackLimits_setFrames]; rfl
  · rw [State.stackBytes_setFrames]; rfl
  · refine ⟨?_, Nat.le_refl _, Nat.le_refl _, ?_, ?_, fun a c9 h9 => ⟨c9, h9, rfl, rfl, fun _ _ => rfl⟩⟩
    · obtain ⟨t, ht, -⟩ := State.frames_cons hr
      show T.setVm s.vm = { ((T.setVm s.vm).setFrames (.invoking m args :: below)).setFrames (T.setVm s.vm).frames with heap := T.heap, slotsUsed := T.slotsUsed }
      rw [State.setFrames_setFrames, State.setFrames_self ht]
      rfl
    · show T.slotsUsed = T.slotsUsed + ((T.heap.toList.drop T.heap.size).map (·.slots.size)).sum
      rw [List.drop_eq_nil_of_le (Nat.le_of_eq Array.length_toList)]
      rfl
    · show ((T.heap.toList.drop T.heap.size).map (·.slots.size)).sum ≤ 0
      rw [List.drop_eq_nil_of_le (Nat.le_of_eq Array.length_toList)]
      exact Nat.le_refl _
/-- 'throw new E()': new; dup; invokespecial; athrow -/
theorem vx_throw0 {cc : ByteArray} {pc : Nat} (hexec : p.tables.exec = Jvm.exec) (hb : c.code = cc) (hl : l.stackTraces = false) {own cls : String} {names : List String} {ik ic mc ms : Nat} {A : Nat → Prop}
    (hown : s.vm.findClass own = some m.cls) (hcls : Bundle.fit cls = true) (hnames : ∀ n ∈ names, Bundle.fit n = true)
    (hk : (Cond.classLink own ik cls).before args s = true) (hini : (Cond.initialized cls).before args s = true) (hat : ∀ w ∈ vx_at0 own ic cls names, w.before args s = true)
    (hgood : ∀ w ∈ Cond.classLink own ik cls :: Cond.initialized cls :: vx_at0 own ic cls names, vx_ot w = true)
    (hU : vx_Zq Bundle.tN "UNASSIGNED_STACK" Bundle.steD A s s.heap) (hN : vx_Zq Bundle.tN "SUPPRESSED_SENTINEL" Bundle.listD A s s.heap) (hS : va_S A s.heap H locs) (hsize : ls.size = c.maxLocals)
    (d0 : decode cc pc = .ok (.new ik, 3)) (d3 : decode cc (pc + 3) = .ok (.dup, 1)) (d4 : decode cc (pc + 4) = .ok (.invokespecial ic, 3)) (d7 : decode cc (pc + 7) = .ok (.athrow, 1))
    (hout : ∀ x ∈ c.exceptionTable.toList, covers x (pc + 7) = false)
    (hRframes : names.length + 3 < R.frames) (hRlocals : (rest.map fun v => v.category).sum + (13 * (names.length + 1) + 42) ≤ R.locals) (hRcells : cells + 1 ≤ R.cells) (hRslots : slots + 6 ≤ R.slots) (hlocks : meth.locks = false)
    (hx : ∀ t : State, s.vm.Alike t.vm → H.size ≤ t.heap.size → (∀ q : Nat, q < H.size → t.heap[q]? = H[q]?) → XC cls s t)
    (hf : ∀ z ∈ locs, free z.base) (hc : cells + 1 ≤ mc) (hs : slots + 6 ≤ ms) :
    W p l e R s m args below meth c H locs cells slots (vx_MQ below Qc XC args s mc ms free) (F0 m pc ls rest) := by
  intro T hT X
  have htr : e.platform.stackTraces = false := (show e.platform.stackTraces = l.stackTraces by rw [X.admits.platform]).trans hl
  have Y := vx_rebase X (R' := { frames := R.frames, locals := R.locals, cells := 1, slots := 6 }) (Nat.le_refl _) (Nat.le_refl _) hRcells hRslots
  obtain ⟨s', hA⟩ : ∃ z, z = (T.setVm s.vm).setFrames (.invoking m args :: below) := ⟨_, rfl⟩
  rw [← hA] at Y
  have hvm : s'.vm = s.vm := by rw [hA]; rfl
  have hhp : s'.heap = H := by rw [hA]; exact hT
  have hW0 : s.WarmedH s'.vm := by rw [hvm]; exact State.WarmedH.refl s
  have hat' : ∀ w ∈ vx_at0 own ic cls names, w.before args s' = true := fun w hw => vx_ot_at hW0 hvm.symm (hgood w (List.mem_cons_of_mem _ (List.mem_cons_of_mem _ hw))) (hat w hw)
  have hk' : (Cond.classLink own ik cls).before args s' = true := vx_ot_at hW0 hvm.symm (hgood _ List.mem_cons_self) hk
  have hini' : (Cond.initialized cls).before args s' = true := vx_ot_at hW0 hvm.symm (hgood _ (List.mem_cons_of_mem _ List.mem_cons_self)) hini
  have hU' : vx_Zq Bundle.tN "UNASSIGNED_STACK" Bundle.steD A s' s'.heap := by rw [hhp]; exact vx_Zq.moved hW0.alike (hU.kept hS.2.1)
  have hN' : vx_Zq Bundle.tN "SUPPRESSED_SENTINEL" Bundle.listD A s' s'.heap := by rw [hhp]; exact vx_Zq.moved hW0.alike (hN.kept hS.2.1)
  have h : ∀ w ∈ Bundle.ownAtoms0 own ic cls names, w.before args s' = true := vx_own hat' (vx_isRefq hU'.1) (vx_isRefq hN'.1) hU'.2.word hN'.2.word
  have hown' : s'.vm.findClass own = some m.cls := by rw [hvm]; exact hown
  have hins : (Cond.instantiable cls 6).before args s' = true := h _ (by simp [Bundle.ownAtoms0])
  obtain ⟨vm₁, cX, kX, hfX, hkX, -, -, X₁, st1⟩ := Y.newCold hexec (own := own) (C := cls) (index := ik) (n := 6) hown' hk' hins hini'
    (g := F0 m pc ls rest) rfl (by rw [hb]; exact d0) (Nat.le_refl _) (Nat.le_refl _)
  generalize hT1 : (T.setVm vm₁).pushCell { cls := cX, slots := kX.instanceTypes.map defaultValue, vm := .none } = T1 at X₁ st1
  have hcat : (Value.ref T.heap.size).category = 1 := rfl
  have hcellA : T1.heap[T.heap.size]? = some (freshCell cX kX) := by rw [← hT1]; exact State.heap_pushCell_size _ _
  have d3' : decode c.code (pc + 3) = .ok (.dup, 1) := by rw [hb]; exact d3
  obtain ⟨U, hsteps, hrun, hend, hW, hsame, ce, hce, hO⟩ := X₁.ctorThrow0 hexec htr (own := own) (cls := cls) (names := names) (ic := ic) hown' hcls hnames h (fun x hx => nomatch hx) hfX hkX hcellA (by rw [hhp, hT]; exact Nat.le_refl _)
    (g := { method := m, pc := pc + 4, locals := ls, stack := .ref T.heap.size :: .ref T.heap.size :: rest, locked := none }) rfl hsize rfl rfl (rest := rest) rfl
    (by rw [hb]; exact d4) (by rw [hb]; exact d7) hout hRframes (by simp only [List.map_cons, List.sum_cons, hcat]; omega) hlocks
  obtain ⟨f1, f2⟩ := vx_frame hsame
  rw [hhp] at f1 f2
  have hWs : s.WarmedH U.vm := State.WarmedH.trans hW0 hW
  have hcl : s.vm.findClass cls = some ce.cls := by
    have h9 := hO.cls
    rw [hvm] at h9
    exact h9
  have hall : s.sameButNew ({ U with vm := s.vm } : State) locs mc ms := by
    subst hA
    obtain ⟨e1, e2⟩ := hsame
    rw [State.setFrames_setFrames] at e1
    have h2 : (T.setVm s.vm).sameButNew ({ U with vm := s.vm } : State) [] (0 + 1) (0 + 6) := ⟨e1, e2⟩
    have h3 := X.same.trans h2
    rw [List.append_nil] at h3
    exact h3.mono hc hs
  refine ⟨U, ?_, .threw T.heap.size, hrun, hend, Or.inr ⟨T.heap.size, rfl, cls, ce, locs, hx U hWs.alike f1 (fun q hq => f2 q hq (fun z hz => nomatch hz)), hce, hO.vm, hcl, hWs, hall, hf⟩⟩
  refine st1 _ ?_
  show Steps p.tables e below (T1.setTop { method := m, pc := pc + 3, locals := ls, stack := .ref T.heap.size :: rest, locked := none }) _
  jvm_step X₁.here [X₁.here.top, hexec, d3', Value.category]
  exact hsteps
/-- 'throw new E("text")': new; dup; ldc; invokespecial; athrow -/
theorem vx_throwS {cc : ByteArray} {pc : Nat} (hexec : p.tables.exec = Jvm.exec) (hb : c.code = cc) (hl : l.stackTraces = false) {own cls text : String} {names : List String} {ik is ic mc ms sa : Nat} {A : Nat → Prop}
    (hown : s.vm.findClass own = some m.cls) (hcls : Bundle.fit cls = true) (hnames : ∀ n ∈ names, Bundle.fit n = true)
    (hk : (Cond.classLink own ik cls).before args s = true) (hini : (Cond.initialized cls).before args s = true) (hstr : vk_R own is text sa s) (hat : ∀ w ∈ vx_atS own ic cls names, w.before args s = true)
    (hgood : ∀ w ∈ Cond.classLink own ik cls :: Cond.initialized cls :: vx_atS own ic cls names, vx_ot w = true)
    (hU : vx_Zq Bundle.tN "UNASSIGNED_STACK" Bundle.steD A s s.heap) (hN : vx_Zq Bundle.tN "SUPPRESSED_SENTINEL" Bundle.listD A s s.heap) (hS : va_S A s.heap H locs) (hsize : ls.size = c.maxLocals)
    (d0 : decode cc pc = .ok (.new ik, 3)) (d3 : decode cc (pc + 3) = .ok (.dup, 1)) (d4 : decode cc (pc + 4) = .ok (.ldc is, 2)) (d6 : decode cc (pc + 6) = .ok (.invokespecial ic, 3)) (d9 : decode cc (pc + 9) = .ok (.athrow, 1))
    (hout : ∀ x ∈ c.exceptionTable.toList, covers x (pc + 9) = false)
    (hRframes : names.length + 3 < R.frames) (hRlocals : (rest.map fun v => v.category).sum + (13 * (names.length + 1) + 43) ≤ R.locals) (hRcells : cells + 1 ≤ R.cells) (hRslots : slots + 6 ≤ R.slots) (hlocks : meth.locks = false)
    (hx : ∀ t : State, s.vm.Alike t.vm → H.size ≤ t.heap.size → (∀ q : Nat, q < H.size → t.heap[q]? = H[q]?) → XC cls s t)
    (hf : ∀ z ∈ locs, free z.base) (hc : cells + 1 ≤ mc) (hs : slots + 6 ≤ ms) :
    W p l e R s m args below meth c H locs cells slots (vx_MQ below Qc XC args s mc ms free) (F0 m pc ls rest) := by
  intro T hT X
  have htr : e.platform.stackTraces = false := (show e.platform.stackTraces = l.stackTraces by rw [X.admits.platform]).trans hl
  have Y := vx_rebase X (R' := { frames := R.frames, locals := R.locals, cells := 1, slots := 6 }) (Nat.le_refl _) (Nat.le_refl _) hRcells hRslots
  obtain ⟨s', hA⟩ : ∃ z, z = (T.setVm s.vm).setFrames (.invoking m args :: below) := ⟨_, rfl⟩
  rw [← hA] at Y
  have hvm : s'.vm = s.vm := by rw [hA]; rfl
  have hhp : s'.heap = H := by rw [hA]; exact hT
  have hW0 : s.WarmedH s'.vm := by rw [hvm]; exact State.WarmedH.refl s
  have hat' : ∀ w ∈ vx_atS own ic cls names, w.before args s' = true := fun w hw => vx_ot_at hW0 hvm.symm (hgood w (List.mem_cons_of_mem _ (List.mem_cons_of_mem _ hw))) (hat w hw)
  have hk' : (Cond.classLink own ik cls).before args s' = true := vx_ot_at hW0 hvm.symm (hgood _ List.mem_cons_self) hk
  have hini' : (Cond.initialized cls).before args s' = true := vx_ot_at hW0 hvm.symm (hgood _ (List.mem_cons_of_mem _ List.mem_cons_self)) hini
  have hU' : vx_Zq Bundle.tN "UNASSIGNED_STACK" Bundle.steD A s' s'.heap := by rw [hhp]; exact vx_Zq.moved hW0.alike (hU.kept hS.2.1)
  have hN' : vx_Zq Bundle.tN "SUPPRESSED_SENTINEL" Bundle.listD A s' s'.heap := by rw [hhp]; exact vx_Zq.moved hW0.alike (hN.kept hS.2.1)
  have h : ∀ w ∈ Bundle.ownAtoms own ic cls names, w.before args s' = true := vx_own hat' (vx_isRefq hU'.1) (vx_isRefq hN'.1) hU'.2.word hN'.2.word
  have hown' : s'.vm.findClass own = some m.cls := by rw [hvm]; exact hown
  have hins : (Cond.instantiable cls 6).before args s' = true := h _ (by simp [Bundle.ownAtoms])
  obtain ⟨vm₁, cX, kX, hfX, hkX, -, -, X₁, st1⟩ := Y.newCold hexec (own := own) (C := cls) (index := ik) (n := 6) hown' hk' hins hini'
    (g := F0 m pc ls rest) rfl (by rw [hb]; exact d0) (Nat.le_refl _) (Nat.le_refl _)
  generalize hT1 : (T.setVm vm₁).pushCell { cls := cX, slots := kX.instanceTypes.map defaultValue, vm := .none } = T1 at X₁ st1
  have hcat : (Value.ref T.heap.size).category = 1 := rfl
  have hcellA : T1.heap[T.heap.size]? = some (freshCell cX kX) := by rw [← hT1]; exact State.heap_pushCell_size _ _
  have d3' : decode c.code (pc + 3) = .ok (.dup, 1) := by rw [hb]; exact d3
  have d4' : decode c.code (pc + 4) = .ok (.ldc is, 2) := by rw [hb]; exact d4
  have hstr' : vk_R own is text sa s' := vk_R.warm hW0 hstr
  obtain ⟨U, hsteps, hrun, hend, hW, hsame, ce, hce, hO⟩ := X₁.ctorThrowS hexec htr (own := own) (cls := cls) (names := names) (ic := ic) hown' hcls hnames h (fun x hx => nomatch hx) hfX hkX hcellA (by rw [hhp, hT]; exact Nat.le_refl _) (msg := .ref sa) rfl
    (g := { method := m, pc := pc + 6, locals := ls, stack := .ref sa :: .ref T.heap.size :: .ref T.heap.size :: rest, locked := none }) rfl hsize rfl rfl (rest := rest) rfl
    (by rw [hb]; exact d6) (by rw [hb]; exact d9) hout hRframes (by simp only [List.map_cons, List.sum_cons, hcat]; omega) hlocks
  obtain ⟨f1, f2⟩ := vx_frame hsame
  rw [hhp] at f1 f2
  have hWs : s.WarmedH U.vm := State.WarmedH.trans hW0 hW
  have hcl : s.vm.findClass cls = some ce.cls := by
    have h9 := hO.cls
    rw [hvm] at h9
    exact h9
  have hall : s.sameButNew ({ U with vm := s.vm } : State) locs mc ms := by
    subst hA
    obtain ⟨e1, e2⟩ := hsame
    rw [State.setFrames_setFrames] at e1
    have h2 : (T.setVm s.vm).sameButNew ({ U with vm := s.vm } : State) [] (0 + 1) (0 + 6) := ⟨e1, e2⟩
    have h3 := X.same.trans h2
    rw [List.append_nil] at h3
    exact h3.mono hc hs
  refine ⟨U, ?_, .threw T.heap.size, hrun, hend, Or.inr ⟨T.heap.size, rfl, cls, ce, locs, hx U hWs.alike f1 (fun q hq => f2 q hq (fun z hz => nomatch hz)), hce, hO.vm, hcl, hWs, hall, hf⟩⟩
  refine st1 _ ?_
  show Steps p.tables e below (T1.setTop { method := m, pc := pc + 3, locals := ls, stack := .ref T.heap.size :: rest, locked := none }) _
  jvm_step X₁.here [X₁.here.top, hexec, d3', Value.category]
  exact X₁.ldcString hexec (own := own) (text := text) (index := is) (a := sa) hown' hstr'.1 hstr'.2
    (g := { method := m, pc := pc + 4, locals := ls, stack := .ref T.heap.size :: .ref T.heap.size :: rest, locked := none }) rfl d4' _ hsteps
/-- 'throw new E("text")', the text by a wide index -/
theorem vx_throwSW {cc : ByteArray} {pc : Nat} (hexec : p.tables.exec = Jvm.exec) (hb : c.code = cc) (hl : l.stackTraces = false) {own cls text : String} {names : List String} {ik is ic mc ms sa : Nat} {A : Nat → Prop}
    (hown : s.vm.findClass own = some m.cls) (hcls : Bundle.fit cls = true) (hnames : ∀ n ∈ names, Bundle.fit n = true)
    (hk : (Cond.classLink own ik cls).before args s = true) (hini : (Cond.initialized cls).before args s = true) (hstr : vk_R own is text sa s) (hat : ∀ w ∈ vx_atS own ic cls names, w.before args s = true)
    (hgood : ∀ w ∈ Cond.classLink own ik cls :: Cond.initialized cls :: vx_atS own ic cls names, vx_ot w = true)
    (hU : vx_Zq Bundle.tN "UNASSIGNED_STACK" Bundle.steD A s s.heap) (hN : vx_Zq Bundle.tN "SUPPRESSED_SENTINEL" Bundle.listD A s s.heap) (hS : va_S A s.heap H locs) (hsize : ls.size = c.maxLocals)
    (d0 : decode cc pc = .ok (.new ik, 3)) (d3 : decode cc (pc + 3) = .ok (.dup, 1)) (d4 : decode cc (pc + 4) = .ok (.ldc_w is, 3)) (d7 : decode cc (pc + 7) = .ok (.invokespecial ic, 3)) (d10 : decode cc (pc + 10) = .ok (.athrow, 1))
    (hout : ∀ x ∈ c.exceptionTable.toList, covers x (pc + 10) = false)
    (hRframes : names.length + 3 < R.frames) (hRlocals : (rest.map fun v => v.category).sum + (13 * (names.length + 1) + 43) ≤ R.locals) (hRcells : cells + 1 ≤ R.cells) (hRslots : slots + 6 ≤ R.slots) (hlocks : meth.locks = false)
    (hx : ∀ t : State, s.vm.Alike t.vm → H.size ≤ t.heap.size → (∀ q : Nat, q < H.size → t.heap[q]? = H[q]?) → XC cls s t)
    (hf : ∀ z ∈ locs, free z.base) (hc : cells + 1 ≤ mc) (hs : slots + 6 ≤ ms) :
    W p l e R s m args below meth c H locs cells slots (vx_MQ below Qc XC args s mc ms free) (F0 m pc ls rest) := by
  intro T hT X
  have htr : e.platform.stackTraces = false := (show e.platform.stackTraces = l.stackTraces by rw [X.admits.platform]).trans hl
  have Y := vx_rebase X (R' := { frames := R.frames, locals := R.locals, cells := 1, slots := 6 }) (Nat.le_refl _) (Nat.le_refl _) hRcells hRslots
  obtain ⟨s', hA⟩ : ∃ z, z = (T.setVm s.vm).setFrames (.invoking m args :: below) := ⟨_, rfl⟩
  rw [← hA] at Y
  have hvm : s'.vm = s.vm := by rw [hA]; rfl
  have hhp : s'.heap = H := by rw [hA]; exact hT
  have hW0 : s.WarmedH s'.vm := by rw [hvm]; exact State.WarmedH.refl s
  have hat' : ∀ w ∈ vx_atS own ic cls names, w.before args s' = true := fun w hw => vx_ot_at hW0 hvm.symm (hgood w (List.mem_cons_of_mem _ (List.mem_cons_of_mem _ hw))) (hat w hw)
  have hk' : (Cond.classLink own ik cls).before args s' = true := vx_ot_at hW0 hvm.symm (hgood _ List.mem_cons_self) hk
  have hini' : (Cond.initialized cls).before args s' = true := vx_ot_at hW0 hvm.symm (hgood _ (List.mem_cons_of_mem _ List.mem_cons_self)) hini
  have hU' : vx_Zq Bundle.tN "UNASSIGNED_STACK" Bundle.steD A s' s'.heap := by rw [hhp]; exact vx_Zq.moved hW0.alike (hU.kept hS.2.1)
  have hN' : vx_Zq Bundle.tN "SUPPRESSED_SENTINEL" Bundle.listD A s' s'.heap := by rw [hhp]; exact vx_Zq.moved hW0.alike (hN.kept hS.2.1)
  have h : ∀ w ∈ Bundle.ownAtoms own ic cls names, w.before args s' = true := vx_own hat' (vx_isRefq hU'.1) (vx_isRefq hN'.1) hU'.2.word hN'.2.word
  have hown' : s'.vm.findClass own = some m.cls := by rw [hvm]; exact hown
  have hins : (Cond.instantiable cls 6).before args s' = true := h _ (by simp [Bundle.ownAtoms])
  obtain ⟨vm₁, cX, kX, hfX, hkX, -, -, X₁, st1⟩ := Y.newCold hexec (own := own) (C := cls) (index := ik) (n := 6) hown' hk' hins hini'
    (g := F0 m pc ls rest) rfl (by rw [hb]; exact d0) (Nat.le_refl _) (Nat.le_refl _)
  generalize hT1 : (T.setVm vm₁).pushCell { cls := cX, slots := kX.instanceTypes.map defaultValue, vm := .none } = T1 at X₁ st1
  have hcat : (Value.ref T.heap.size).category = 1 := rfl
  have hcellA : T1.heap[T.heap.size]? = some (freshCell cX kX) := by rw [← hT1]; exact State.heap_pushCell_size _ _
  have d3' : decode c.code (pc + 3) = .ok (.dup, 1) := by rw [hb]; exact d3
  have d4' : decode c.code (pc + 4) = .ok (.ldc_w is, 3) := by rw [hb]; exact d4
  have hstr' : vk_R own is text sa s' := vk_R.warm hW0 hstr
  obtain ⟨U, hsteps, hrun, hend, hW, hsame, ce, hce, hO⟩ := X₁.ctorThrowS hexec htr (own := own) (cls := cls) (names := names) (ic := ic) hown' hcls hnames h (fun x hx => nomatch hx) hfX hkX hcellA (by rw [hhp, hT]; exact Nat.le_refl _) (msg := .ref sa) rfl
    (g := { method := m, pc := pc + 7, locals := ls, stack := .ref sa :: .ref T.heap.size :: .ref T.heap.size :: rest, locked := none }) rfl hsize rfl rfl (rest := rest) rfl
    (by rw [hb]; exact d7) (by rw [hb]; exact d10) hout hRframes (by simp only [List.map_cons, List.sum_cons, hcat]; omega) hlocks
  obtain ⟨f1, f2⟩ := vx_frame hsame
  rw [hhp] at f1 f2
  have hWs : s.WarmedH U.vm := State.WarmedH.trans hW0 hW
  have hcl : s.vm.findClass cls = some ce.cls := by
    have h9 := hO.cls
    rw [hvm] at h9
    exact h9
  have hall : s.sameButNew ({ U with vm := s.vm } : State) locs mc ms := by
    subst hA
    obtain ⟨e1, e2⟩ := hsame
    rw [State.setFrames_setFrames] at e1
    have h2 : (T.setVm s.vm).sameButNew ({ U with vm := s.vm } : State) [] (0 + 1) (0 + 6) := ⟨e1, e2⟩
    have h3 := X.same.trans h2
    rw [List.append_nil] at h3
    exact h3.mono hc hs
  refine ⟨U, ?_, .threw T.heap.size, hrun, hend, Or.inr ⟨T.heap.size, rfl, cls, ce, locs, hx U hWs.alike f1 (fun q hq => f2 q hq (fun z hz => nomatch hz)), hce, hO.vm, hcl, hWs, hall, hf⟩⟩
  refine st1 _ ?_
  show Steps p.tables e below (T1.setTop { method := m, pc := pc + 3, locals := ls, stack := .ref T.heap.size :: rest, locked := none }) _
  jvm_step X₁.here [X₁.here.top, hexec, d3', Value.category]
  exact X₁.ldcStringW hexec (own := own) (text := text) (index := is) (a := sa) hown' hstr'.1 hstr'.2
    (g := { method := m, pc := pc + 4, locals := ls, stack := .ref T.heap.size :: .ref T.heap.size :: rest, locked := none }) rfl d4' _ hsteps
end Ends
section Bodies
variable {l : Launch}
theorem vx_ofW {y : MethodName} {ws ws' : List Cond} {rm : Room} {Pc : Array Value → State → Prop} {Qc : Array Value → State → Outcome → State → Prop} {XC : String → State → State → Prop} {mc ms : Nat} {free : Addr → Prop} {cc : ByteArray} {maxL : Nat} {ret : Option FieldType}
    (hy : plainName y.cls = true) (hw : ws = Cond.code y cc maxL ret :: ws')
    (body : ∀ p e s m args below meth c s₁, BodyLoose p l y (headSpec ws rm) cc maxL ret e s m args below meth c s₁ → c.maxLocals = maxL → (∀ x ∈ c.exceptionTable.toList, False) → Pc args s →
      W p l e (headSpec ws rm).room s m args below meth c s.heap [] 0 0 (vx_MQ below Qc XC args s mc ms free) (entryFrame m args maxL)) : vx_Met l y ws rm Pc Qc XC mc ms free := by
  refine MetFree.of_bodyS (code := cc) (maxLocals := maxL) (ret := ret) hy ?_ ?_
  · intro args s m h hn
    obtain ⟨meth, c, h1, h2, h3, h4, h5, h6, -, -⟩ := Cond.code_spec hn (atoms_spec (ws := ws) h _ (by rw [hw]; exact List.mem_cons_self))
    exact ⟨meth, c, h1, h2, h3, h4, h5, h6⟩
  · intro p e s m args below meth c s₁ B hml hP _
    have hh0 : s₁.heap = s.heap := by rw [B.state]; rfl
    have ht : ∀ x ∈ c.exceptionTable.toList, False := by
      obtain ⟨meth9, c9, h1, h2, -, -, -, -, h7, -⟩ := Cond.code_spec B.named (atoms_spec (ws := ws) B.pre _ (by rw [hw]; exact List.mem_cons_self))
      cases Option.some.inj (h1.symm.trans B.method)
      cases Option.some.inj (h2.symm.trans (Stand.of_body B).code)
      intro x hx
      rw [Array.isEmpty_iff.mp h7] at hx
      cases hx
    obtain ⟨t, a1, o, b1, b2, b3⟩ := body p e s m args below meth c s₁ B hml ht hP s₁ hh0 (Stand.of_body B)
    exact ⟨t, o, a1, b1, b2, b3⟩
/-- the table of a body with handlers -/
theorem vx_table {p : Program} {x y : MethodName} {S : Spec} {cc bytes : ByteArray} {maxL maxL' : Nat} {ret ret' : Option FieldType} {e : Env} {s s₁ : State} {m : MethodId} {args : Array Value} {below : List Frame} {meth : Method} {c : Code} {hh : List (Nat × Nat × Nat × Nat)}
    (B : BodyLoose p l y S cc maxL ret e s m args below meth c s₁) (h : (Cond.codeWith y bytes maxL' ret' hh).before args s = true) : c.exceptionTable.toList = tableOf hh := by
  obtain ⟨m9, meth9, c9, hn9, h1, h2, -, -, h6, -⟩ := Cond.codeWith_spec h
  cases Option.some.inj (hn9.symm.trans B.named)
  cases Option.some.inj (h1.symm.trans B.method)
  cases Option.some.inj (h2.symm.trans (Stand.of_body B).code)
  rw [← h6, table_eq]
end Bodies
end VXA
/-! ===== END ===== -/
/-! ===== BEGIN a static call of a method with an exception table ===== -/
section VXS
variable {p : Program} {l : Launch} {e : Env} {R : Room} {s : State} {m : MethodId} {args : Array Value} {below : List Frame} {meth : Method} {c : Code} {T : State} {H : Heap} {locs : List Loc} {cells slots : Nat}
abbrev vx_CSW (R : Room) (s : State) (args : Array Value) (own : String) (index : Nat) (y : MethodName) (bytes : ByteArray) (maxL : Nat) (ret : Option FieldType) (hh : List (Nat × Nat × Nat × Nat)) (ws : List Cond) (rm : Room) (mc ms n : Nat) : Prop :=
  (rm.cells = mc ∧ rm.slots = ms ∧ rm.frames + 1 ≤ R.frames ∧ 8 + (maxL + 11) + rm.locals ≤ R.locals ∧ (∀ w ∈ ws, ∀ (a' : Array Value) (U : State), s.WarmedH U.vm → w.before a' U = true) ∧ Cond.codeWith y bytes maxL ret hh ∈ ws) ∧
  (Cond.codeWith y bytes maxL ret hh).before args s = true ∧ (Cond.initialized y.cls).before args s = true ∧ (y.cls ≠ "java/lang/invoke/MethodHandle" ∧ y.cls ≠ "java/lang/invoke/VarHandle") ∧
  (∀ sig, parseMethodDescriptor y.desc = some sig → n = sig.parameters.length) ∧ (Cond.methodLink own index y).before args s = true ∧ (Cond.static y).before args s = true
theorem vx_cwSW {own : String} {index maxL mc ms : Nat} {y : MethodName} {bytes : ByteArray} {ret : Option FieldType} {hh : List (Nat × Nat × Nat × Nat)} {Ts ws ws' : List Cond} {rm : Room} (n : Nat) (ht : ∀ w ∈ Ts, w.before args s = true) (hT : GoodIn Ts (va_wsS own index y ws)) (hw : ws = Cond.codeWith y bytes maxL ret hh :: ws') (hrc : rm.cells = mc) (hrs : rm.slots = ms)
    (hd : y.cls ≠ "java/lang/invoke/MethodHandle" ∧ y.cls ≠ "java/lang/invoke/VarHandle" ∧ (parseMethodDescriptor y.desc).map (fun d => d.parameters.length) = some n) (hR : rm.frames + 1 ≤ R.frames ∧ 8 + (maxL + 11) + rm.locals ≤ R.locals) :
    vx_CSW R s args own index y bytes maxL ret hh ws rm mc ms n := by
  have ok : ∀ w ∈ va_wsS own index y ws, w.before args s = true := fun w h => ht w (hT w h).1
  have hG : GoodIn Ts ws := fun w h => hT w (by unfold va_wsS; exact List.mem_append_right _ h)
  have hc : Cond.codeWith y bytes maxL ret hh ∈ ws := by rw [hw]; exact List.mem_cons_self
  refine ⟨⟨hrc, hrs, hR.1, hR.2, pay_in ht hG, hc⟩, ht _ (hG _ hc).1, ok _ (by simp [va_wsS]), ⟨hd.1, hd.2.1⟩, fun sig h => ?_, ok _ (by simp [va_wsS]), ok _ (by simp [va_wsS])⟩
  have h2 := hd.2.2
  rw [h] at h2
  exact (Option.some.inj h2).symm
theorem vx_callSW (X : Stand p l e R s m args below meth c T locs cells slots) (hexec : p.tables.exec = Jvm.exec) {own : String} {index : Nat} {y : MethodName} {bytes : ByteArray} {maxL : Nat} {ret : Option FieldType} {hh : List (Nat × Nat × Nat × Nat)}
    (hown : s.vm.findClass own = some m.cls) (hlink : (Cond.methodLink own index y).before args s = true) (hstat : (Cond.static y).before args s = true) (hinit : (Cond.initialized y.cls).before args s = true)
    (hcode : (Cond.codeWith y bytes maxL ret hh).before args s = true) (hy : y.cls ≠ "java/lang/invoke/MethodHandle" ∧ y.cls ≠ "java/lang/invoke/VarHandle")
    {W9 : Nat} {Pre : Pt → Array Value → Prop} {Post : Pt → Array Value → Option Value → Pt → Prop} (hK : Back l R p e below s args y 3 W9 Pre Post)
    {g : JFrame} (hg : g.method = m) (hsize : g.locals.size = c.maxLocals) {argsL rest : List Value} (hlen : ∀ sig, parseMethodDescriptor y.desc = some sig → argsL.length = sig.parameters.length)
    (hstack : g.stack = argsL.reverse ++ rest) (hW : 2 * g.monitorRoom + (rest.map fun v => v.category).sum ≤ W9) (hdg : decode c.code g.pc = .ok (.invokestatic index, 3))
    (hpre : ∀ vm₁, s.WarmedH vm₁ → Pre ⟨T.setVm vm₁, locs, cells, slots⟩ argsL.toArray) :
    ∃ (v : Option Value) (vm₁ : Vm) (B : Pt), s.WarmedH vm₁ ∧ Stand p l e R s m args below meth c B.U B.locs B.cells B.slots ∧ Post ⟨T.setVm vm₁, locs, cells, slots⟩ argsL.toArray v B ∧
      ∀ target, Steps p.tables e below (B.U.setTop { g with pc := g.pc + 3, stack := v.toList ++ rest }) target → Steps p.tables e below (T.setTop g) target := by
  obtain ⟨mk, methM, cM, hnamed, hmethM, -, -, -, -, -, -, hsigM⟩ := Cond.codeWith_spec hcode
  have hstatic : methM.isStatic = true := Cond.static_spec hnamed hmethM hstat
  obtain ⟨kP, hkP, -⟩ := className_of_methodNamed hnamed
  have hinitP : kP.init = .initialized := Cond.initialized_spec (findClass_of_methodNamed hnamed) hkP hinit
  obtain ⟨vm₁, X₁, hstep₁⟩ := X.invokestatic hexec hown hlink hnamed hmethM hstatic hkP hinitP hy (g := g) hg (argsL := argsL) (rest := rest) (hlen _ hsigM) hstack hdg
  obtain ⟨v, B, X', hpost, hsteps⟩ := hK m meth c ⟨T.setVm vm₁, locs, cells, slots⟩ { g with stack := rest } (.invokestatic index) mk argsL.toArray X₁ hg hsize hdg hW (X₁.named hnamed) (hpre vm₁ X₁.warmed)
  exact ⟨v, vm₁, B, X₁.warmed, X', hpost, fun target h => hstep₁ _ fun acts => by rw [doInvoke_state]; exact hsteps.trans h⟩
theorem vx_runSW {y : MethodName} {bytes cc : ByteArray} {maxL nL mc ms n index : Nat} {ret : Option FieldType} {hh : List (Nat × Nat × Nat × Nat)} {ws : List Cond} {rm : Room} {Pc : Array Value → State → Prop} {Qc : Array Value → State → Outcome → State → Prop} {free : Addr → Prop} {Ts : List Cond} {own : String} {As rest : List Value} {g : JFrame}
    (S : CallFix p m c cc nL s args Ts own) (hM : Met l y ws rm Pc Qc mc ms free) (cw : vx_CSW R s args own index y bytes maxL ret hh ws rm mc ms n) (hp : PreS s H Pc As)
    (hg : g.method = m) (hn : As.length = n) (hsize : g.locals.size = nL) (hstack : g.stack = As.reverse ++ rest) (hW : 2 * g.monitorRoom + (rest.map fun v => v.category).sum ≤ 8) (hdg : decode cc g.pc = .ok (.invokestatic index, 3)) (hf : cells + mc ≤ R.cells ∧ slots + ms ≤ R.slots) :
    va_Run p l e R s m args below meth c H locs cells slots mc ms g rest (Qc As.toArray) (free) := by
  obtain ⟨⟨hrc, hrs, hfr, hlo, hws, hcw⟩, hcode, hini, hy, hlen, hl, hstt⟩ := cw
  have hK : Back l R p e below s args y 3 8 (PreOf R mc ms Pc) (PostOf Qc mc ms free) := va_backW (hh := hh) (bytes := bytes) (maxL := maxL) (ret := ret) hM hp.1 hrc hrs hfr hlo hws hcw (fun a' U hW => word_at hW (Or.inl (by first | rfl | simp [Cond.onTables, Cond.keeps, Cond.steady])) hini)
  obtain ⟨hx, hb, hml, ho, -⟩ := S
  intro T hT X
  obtain ⟨v, vm₁, ⟨U', l2, c2, s2⟩, hW₁, X', ⟨g', mk, t, L, e1, e2, hq, h1, hL, h2, h3⟩, st⟩ := vx_callSW X hx (hh := hh) (bytes := bytes) (maxL := maxL) (ret := ret) ho hl hstt hini hcode hy hK hg (hsize.trans hml.symm) (argsL := As) (rest := rest) (fun sig h => hn.trans (hlen sig h)) hstack hW (by rw [hb]; exact hdg)
    (fun vm₁ hW₁ => ⟨hf.1, hf.2, hp.2 (T.setVm vm₁) hT hW₁⟩)
  dsimp only [Pt.U, Pt.locs, Pt.cells, Pt.slots] at X' e1 e2 h1 h2 h3 st
  subst h1; subst h2; subst h3
  exact ⟨v, (T.setVm vm₁).calling g' mk As.toArray, t, U', L, hT, X', hL, e1, e2, hq, st⟩
/-- not caught here, past rows that name other classes: it goes on to the caller -/
theorem vx_outP {p : Program} {l : Launch} {e : Env} {R : Room} {s : State} {m : MethodId} {args : Array Value} {below : List Frame} {meth : Method} {c : Code} {H : Heap} {locs : List Loc} {cells slots : Nat} {free : Addr → Prop} {ls : Array Slot} {rest : List Value} {Qc : Array Value → State → Outcome → State → Prop} {XC : String → State → State → Prop}
    {pc : Nat} {own E : String} {ce : Cell} {q : Addr} {mc ms : Nat} (hown : s.vm.findClass own = some m.cls) (hlocks : meth.locks = false)
    (hpass : ∀ z ∈ c.exceptionTable.toList, covers z pc = false ∨ (z.catchType ≠ 0 ∧ ∃ nm : String, (Cond.classLink own z.catchType nm).before args s = true ∧ va_Nc E nm s)) (hcell : H[q]? = some ce) (hv : ce.vm = .none) (hcl : s.vm.findClass E = some ce.cls)
    (hx : ∀ t : State, t.heap = H → s.vm.Alike t.vm → XC E s t) (hf : ∀ z ∈ locs, free z.base) (hc : cells ≤ mc) (hs : slots ≤ ms) :
    vx_W p l e R s m args below meth c H locs cells slots (vx_MQ below Qc XC args s mc ms free) (F0 m pc ls rest) q := by
  intro T hT X
  have hpl : e.platform.magicAccessors = ({} : Platform).magicAccessors := by rw [X.admits.platform]
  obtain ⟨vm', hW', X', st⟩ := X.outThrough hlocks q (g := F0 m pc ls rest) rfl rfl rfl (cell := ce) (by rw [hT]; exact hcell) (by rw [hv]; rfl)
    (by obtain ⟨k9, h9, -⟩ := Vm.findClass_spec hcl; exact ⟨k9, h9⟩) (fun z hz => by
      rcases hpass z hz with h | ⟨hz0, nm, hl1, hn1⟩
      · exact Or.inl h
      · obtain ⟨c6, hc6, hcl6⟩ := Cond.classLink_spec hown hl1 e.platform hpl
        obtain ⟨a8, b8, h1, h2, h3⟩ := hn1
        cases Option.some.inj (h1.symm.trans hcl)
        cases Option.some.inj (h2.symm.trans hc6)
        exact Or.inr ⟨hz0, _, hcl6, h3⟩)
  obtain ⟨g₀, hfr⟩ := X'.frames_eq
  have hcell9 : ((T.setVm vm').setFrames (.throwing q :: below)).heap[q]? = some ce := by
    show T.heap[q]? = some ce
    rw [hT]; exact hcell
  have hend : Ended ((T.setVm vm').setFrames (.throwing q :: below)) below (.threw q) := State.frames_setFrames _ (State.cur_lt_of_frames hfr)
  refine ⟨(T.setVm vm').setFrames (.throwing q :: below), ?_, .threw q, X'.here.running, hend, Or.inr ⟨q, rfl, E, ce, locs, hx _ hT (X'.ends _).1.alike, hcell9, hv, hcl, (X'.ends _).1, (X'.ends _).2.mono hc hs, hf⟩⟩
  rw [X.pushThrowing_eq]
  exact st
/-- a thing of a world lies in the heap -/
theorem vx_lt {D : va_G} {cl : List vw_C} {ws : va_W} {H1 : Heap} (h : va_P D cl ws H1) {k : Nat} {q : Nat × va_E} (hk : ws[k]? = some q) : q.1 < H1.size := (h k q hk).lt
end VXS
/-! ===== END ===== -/
/-! ===== BEGIN methods with a table of their own: called by a name, returning or throwing ===== -/
section VXH
/-! vx_backW, vx_callVX, vx_callSX, vx_callVW, vx_runVW, vx_runVX, vx_runSX, vx_ofWH follow the same proofs as their sisters above (Free/Laws.lean, Shelf42/LK1.lean); vx_outP calls Shelf42/NT130.lean (outThrough). -/
section
variable {l : Launch} {R : Room} {p : Program} {e : Env} {below : List Frame} {s : State} {sargs : Array Value} {y : MethodName} {len W9 : Nat}
theorem vx_backW {ws : List Cond} {rm : Room} {Pc : Array Value → State → Prop} {Qc : Array Value → State → Outcome → State → Prop} {XC : String → State → State → Prop} {mc ms : Nat} {free : Addr → Prop} {bytes : ByteArray} {maxL : Nat} {ret : Option FieldType} {hh : List (Nat × Nat × Nat × Nat)}
    (hM : vx_Met l y ws rm Pc Qc XC mc ms free) (hblind : FrameBlind Pc) (hrc : rm.cells = mc) (hrs : rm.slots = ms)
    (hframes : rm.frames + 1 ≤ R.frames) (hlocals : W9 + (maxL + 11) + rm.locals ≤ R.locals)
    (hws : ∀ w ∈ ws, ∀ a' U, s.WarmedH U.vm → w.before a' U = true) (hcode : Cond.codeWith y bytes maxL ret hh ∈ ws) (hinit : ∀ a' U, s.WarmedH U.vm → (Cond.initialized y.cls).before a' U = true) :
    vx_Back l R p e below s sargs y len W9 (PreOf R mc ms Pc) (PostOf Qc mc ms free) (vx_Post XC mc ms free) := by
  intro m meth c A g ig mk a X hg hsize hdg hW hn hp
  have h1 : (headSpec ws rm).pre.before a A.U = true := atoms_intro fun w hw => hws w hw _ _ X.warmed
  have h2 : (Cond.codeWith y bytes maxL ret hh).before a A.U = true := hws _ hcode _ _ X.warmed
  have h3 : (Cond.initialized y.cls).before a A.U = true := hinit _ _ X.warmed
  have h4 : A.cells + (headSpec ws rm).room.cells ≤ R.cells := by rw [show (headSpec ws rm).room.cells = mc from hrc]; exact hp.1
  have h5 : A.slots + (headSpec ws rm).room.slots ≤ R.slots := by rw [show (headSpec ws rm).room.slots = ms from hrs]; exact hp.2.1
  have hPc : Pc a (A.U.calling g mk a) := hblind _ _ _ _ hp.2.2
  obtain ⟨U, Ls, c0, s0⟩ := A
  dsimp only [Pt.U, Pt.locs, Pt.cells, Pt.slots] at h1 h2 h3 h4 h5 X hn hPc ⊢
  obtain ⟨m9, methY, cY, hn9, hmY, hcY, -, hlY, -⟩ := Cond.codeWith_spec h2
  cases Option.some.inj (hn9.symm.trans hn)
  obtain ⟨kY, hkY, -⟩ := className_of_methodNamed hn
  have hinitY : kY.init = .initialized := Cond.initialized_spec (findClass_of_methodNamed hn) hkY h3
  have h : At U g.method c below := by rw [hg]; exact X.here
  have hlocals9 : W9 + (maxL + 11) + (headSpec ws rm).room.locals ≤ R.locals := hlocals
  have happ : (headSpec ws rm).appliesLoose y e.platform (U.calling g mk a) = true :=
    Spec.appliesLoose_calling (g := g) h hdg hn hkY hinitY
      (X.room_calling (g := g) (R' := (headSpec ws rm).room) hsize hmY hcY hframes (by rw [hlY]; omega) h4 h5) h1
  obtain ⟨mid, hmid⟩ := h.above
  have hfr : (U.setTop g).frames = (.java g :: mid) ++ below := by rw [State.frames_setTop' g h.top, hmid]; rfl
  obtain ⟨o, s₂, hsteps, -, hend, hq⟩ := Steps.callFree hM p X.admits X.cas X.clock (acts := []) hfr happ hPc trivial
  have hq' : vx_Q Qc XC mc ms free a (U.calling g mk a) o s₂ := hq
  rw [State.frames_setTop' g h.top] at hend
  obtain ⟨g₀, hg0⟩ := Option.isSome_iff_exists.mp h.top
  obtain ⟨r, hr⟩ := State.topJava?_eq_some.mp hg0
  have hr' : (({ U with heap := s₂.heap, slotsUsed := s₂.slotsUsed } : State).setVm s₂.vm).frames = .java g₀ :: r := hr
  rcases hq' with ⟨hqc, L, hfe, hL⟩ | ⟨q, rfl, E, ce, L, hx, hce, hcv, hcl, hW₂, hsm, hL⟩
  · obtain ⟨⟨v, rfl⟩, hW₂, e2, q2, q3, q4, q5, q6⟩ := id hfe
    have e3 : s₂ = ({ (U.calling g mk a).setFrames s₂.frames with heap := s₂.heap, slotsUsed := s₂.slotsUsed } : State).setVm s₂.vm := by
      have : s₂ = ({ s₂ with vm := (U.calling g mk a).vm } : State).setVm s₂.vm := rfl
      rw [e2] at this
      exact this
    obtain ⟨c₂, i₂, len₂, hc₂, hd₂, hf₂⟩ := hend
    have hW' : U.WarmedH s₂.vm := hW₂
    have hcc : c₂ = c := by
      have h1 : s₂.code? g.method = U.code? g.method := by
        rw [State.code?_eq, State.code?_eq, hW'.alike.method?]
      exact Option.some.inj (hc₂.symm.trans (h1.trans h.code))
    subst hcc
    have hlen : len₂ = len := by rw [hdg] at hd₂; cases hd₂; rfl
    subst hlen
    have hs₂ : s₂ = (({ U with heap := s₂.heap, slotsUsed := s₂.slotsUsed } : State).setVm s₂.vm).setTop { g with pc := g.pc + len₂, stack := v.toList ++ g.stack } := by
      refine e3.trans ?_
      rw [hf₂, State.calling_eq h.top, State.setFrames_setFrames, State.setTop_of_frames _ hr', hr]
      rfl
    have hsame : U.sameButNew ({ U with heap := s₂.heap, slotsUsed := s₂.slotsUsed } : State) L mc ms := by
      refine ⟨?_, q2, q3, q4, q5, q6⟩
      obtain ⟨t, ht, -⟩ := State.frames_cons hr
      show ({ U with heap := s₂.heap, slotsUsed := s₂.slotsUsed } : State) = { U.setFrames U.frames with heap := s₂.heap, slotsUsed := s₂.slotsUsed }
      rw [State.setFrames_self ht]
    subst hg
    refine Or.inl ⟨v, ⟨(({ U with heap := s₂.heap, slotsUsed := s₂.slotsUsed } : State).setVm s₂.vm), Ls ++ L, c0 + mc, s0 + ms⟩,
      ⟨X.admits, X.cas, X.clock, X.frames, X.room, X.hears, X.method, X.code, (X.here.setHeapUsed s₂.heap s₂.slotsUsed).setVm hW'.alike, X.tail, State.WarmedH.trans X.warmed hW', X.limits, X.bytes, X.same.trans (hsame.setVm s.vm)⟩,
      ⟨g, mk, s₂, L, rfl, rfl, hqc, rfl, hL, rfl, rfl⟩, ?_⟩
    show Steps p.tables e below _ ((({ U with heap := s₂.heap, slotsUsed := s₂.slotsUsed } : State).setVm s₂.vm).setTop { g with pc := g.pc + len₂, stack := v.toList ++ g.stack })
    rw [← hs₂]
    exact hsteps
  · obtain ⟨e2, q2, q3, q4, q5, q6⟩ := id hsm
    have e3 : s₂ = ({ (U.calling g mk a).setFrames s₂.frames with heap := s₂.heap, slotsUsed := s₂.slotsUsed } : State).setVm s₂.vm := by
      have : s₂ = ({ s₂ with vm := (U.calling g mk a).vm } : State).setVm s₂.vm := rfl
      rw [e2] at this
      exact this
    have hf₂ : s₂.frames = .throwing q :: .java g :: U.frames.tail := hend
    have hW' : U.WarmedH s₂.vm := hW₂
    have hs₂ : s₂ = ((({ U with heap := s₂.heap, slotsUsed := s₂.slotsUsed } : State).setVm s₂.vm).setTop g).pushFrame (.throwing q) := by
      refine e3.trans ?_
      rw [hf₂, State.calling_eq h.top, State.setFrames_setFrames, State.pushFrame, State.frames_setTop _ hr', State.setTop_of_frames _ hr', State.setFrames_setFrames, hr]
      rfl
    have hsame : U.sameButNew ({ U with heap := s₂.heap, slotsUsed := s₂.slotsUsed } : State) L mc ms := by
      refine ⟨?_, q2, q3, q4, q5, q6⟩
      obtain ⟨t, ht, -⟩ := State.frames_cons hr
      show ({ U with heap := s₂.heap, slotsUsed := s₂.slotsUsed } : State) = { U.setFrames U.frames with heap := s₂.heap, slotsUsed := s₂.slotsUsed }
      rw [State.setFrames_self ht]
    subst hg
    refine Or.inr ⟨q, ⟨(({ U with heap := s₂.heap, slotsUsed := s₂.slotsUsed } : State).setVm s₂.vm), Ls ++ L, c0 + mc, s0 + ms⟩,
      ⟨X.admits, X.cas, X.clock, X.frames, X.room, X.hears, X.method, X.code, (X.here.setHeapUsed s₂.heap s₂.slotsUsed).setVm hW'.alike, X.tail, State.WarmedH.trans X.warmed hW', X.limits, X.bytes, X.same.trans (hsame.setVm s.vm)⟩,
      ⟨g, mk, s₂, L, E, ce, rfl, rfl, hx, hce, hcv, hcl, rfl, hL, rfl, rfl⟩, ?_⟩
    show Steps p.tables e below _ (((({ U with heap := s₂.heap, slotsUsed := s₂.slotsUsed } : State).setVm s₂.vm).setTop g).pushFrame (.throwing q))
    rw [← hs₂]
    exact hsteps
end
variable {p : Program} {l : Launch} {e : Env} {R : Room} {s : State} {m : MethodId} {args : Array Value} {below : List Frame} {meth : Method} {c : Code} {T : State} {H : Heap} {locs : List Loc} {cells slots : Nat}
theorem vx_callVX (X : Stand p l e R s m args below meth c T locs cells slots) (hexec : p.tables.exec = Jvm.exec) {own C : String} {index : Nat} {y : MethodName} {bytes : ByteArray} {maxL : Nat} {ret : Option FieldType} {hh : List (Nat × Nat × Nat × Nat)}
    (hown : s.vm.findClass own = some m.cls) (hlink : (Cond.methodLink own index y).before args s = true) (hinst : (Cond.instanceMethod y).before args s = true) (hsel : (Cond.selects C y y).before args s = true)
    (hcode : (Cond.codeWith y bytes maxL ret hh).before args s = true) (hy : y.cls ≠ "java/lang/invoke/MethodHandle" ∧ y.cls ≠ "java/lang/invoke/VarHandle")
    {W9 : Nat} {Pre : Pt → Array Value → Prop} {Post : Pt → Array Value → Option Value → Pt → Prop} {PostX : Pt → Array Value → Addr → Pt → Prop} (hK : vx_Back l R p e below s args y 3 W9 Pre Post PostX)
    {b : Addr} {cellB : Cell} (hcell : T.heap[b]? = some cellB) (hobj : cellB.vm.isStatics = false) (hcls : s.vm.findClass C = some cellB.cls)
    {g : JFrame} (hg : g.method = m) (hsize : g.locals.size = c.maxLocals) {argsL rest : List Value} (hlen : ∀ sig, parseMethodDescriptor y.desc = some sig → argsL.length = sig.parameters.length)
    (hstack : g.stack = argsL.reverse ++ .ref b :: rest) (hW : 2 * g.monitorRoom + (rest.map fun v => v.category).sum ≤ W9) (hdg : decode c.code g.pc = .ok (.invokevirtual index, 3))
    (hpre : ∀ vm₁, s.WarmedH vm₁ → Pre ⟨T.setVm vm₁, locs, cells, slots⟩ (Value.ref b :: argsL).toArray) :
    (∃ (v : Option Value) (vm₁ : Vm) (B : Pt), s.WarmedH vm₁ ∧ Stand p l e R s m args below meth c B.U B.locs B.cells B.slots ∧ Post ⟨T.setVm vm₁, locs, cells, slots⟩ (Value.ref b :: argsL).toArray v B ∧
      ∀ target, Steps p.tables e below (B.U.setTop { g with pc := g.pc + 3, stack := v.toList ++ rest }) target → Steps p.tables e below (T.setTop g) target) ∨
    (∃ (q : Addr) (vm₁ : Vm) (B : Pt), s.WarmedH vm₁ ∧ Stand p l e R s m args below meth c B.U B.locs B.cells B.slots ∧ PostX ⟨T.setVm vm₁, locs, cells, slots⟩ (Value.ref b :: argsL).toArray q B ∧
      Steps p.tables e below (T.setTop g) ((B.U.setTop { g with stack := rest }).pushFrame (.throwing q))) := by
  obtain ⟨mk, methM, hnamed, hmethM, hstM, habM⟩ := Cond.instanceMethod_spec hinst
  obtain ⟨m8, methM', cM, hn8, hmethM', -, -, -, -, -, -, hsigM⟩ := Cond.codeWith_spec hcode
  cases Option.some.inj (hn8.symm.trans hnamed)
  cases hmethM.symm.trans hmethM'
  obtain ⟨c2, r2, m2, q1, q2, q3, q4, kP, hkP, hkPi⟩ := Cond.selects_spec hsel
  cases hcls.symm.trans q1
  cases (State.methodFound?_of_named hnamed hy).symm.trans q2
  cases hnamed.symm.trans q3
  have hselP : selectMethod e.platform s.vm cellB.cls mk = .method mk := by rw [Launch.admits_selectMethod X.admits]; exact q4
  obtain ⟨vm₁, X₁, hstep₁⟩ := X.invokevirtual hexec hown hlink hnamed hmethM hstM hkP hkPi hy (a := b) (cell := cellB) hcell
    (fun z h => by rw [h] at hobj; cases hobj) hselP hmethM habM hkP hkPi (g := g) hg (argsL := argsL) (rest := rest) (hlen _ hsigM) hstack hdg
  rcases hK m meth c ⟨T.setVm vm₁, locs, cells, slots⟩ { g with stack := rest } (.invokevirtual index) mk (Value.ref b :: argsL).toArray X₁ hg hsize hdg hW (X₁.named hnamed) (hpre vm₁ X₁.warmed) with ⟨v, B, X', hpost, hsteps⟩ | ⟨q, B, X', hpost, hsteps⟩
  · exact Or.inl ⟨v, vm₁, B, X₁.warmed, X', hpost, fun target h => hstep₁ _ fun acts => by rw [doInvoke_state]; exact hsteps.trans h⟩
  · exact Or.inr ⟨q, vm₁, B, X₁.warmed, X', hpost, hstep₁ _ fun acts => by rw [doInvoke_state]; exact hsteps⟩
theorem vx_callSX (X : Stand p l e R s m args below meth c T locs cells slots) (hexec : p.tables.exec = Jvm.exec) {own : String} {index : Nat} {y : MethodName} {bytes : ByteArray} {maxL : Nat} {ret : Option FieldType} {hh : List (Nat × Nat × Nat × Nat)}
    (hown : s.vm.findClass own = some m.cls) (hlink : (Cond.methodLink own index y).before args s = true) (hstat : (Cond.static y).before args s = true) (hinit : (Cond.initialized y.cls).before args s = true)
    (hcode : (Cond.codeWith y bytes maxL ret hh).before args s = true) (hy : y.cls ≠ "java/lang/invoke/MethodHandle" ∧ y.cls ≠ "java/lang/invoke/VarHandle")
    {W9 : Nat} {Pre : Pt → Array Value → Prop} {Post : Pt → Array Value → Option Value → Pt → Prop} {PostX : Pt → Array Value → Addr → Pt → Prop} (hK : vx_Back l R p e below s args y 3 W9 Pre Post PostX)
    {g : JFrame} (hg : g.method = m) (hsize : g.locals.size = c.maxLocals) {argsL rest : List Value} (hlen : ∀ sig, parseMethodDescriptor y.desc = some sig → argsL.length = sig.parameters.length)
    (hstack : g.stack = argsL.reverse ++ rest) (hW : 2 * g.monitorRoom + (rest.map fun v => v.category).sum ≤ W9) (hdg : decode c.code g.pc = .ok (.invokestatic index, 3))
    (hpre : ∀ vm₁, s.WarmedH vm₁ → Pre ⟨T.setVm vm₁, locs, cells, slots⟩ argsL.toArray) :
    (∃ (v : Option Value) (vm₁ : Vm) (B : Pt), s.WarmedH vm₁ ∧ Stand p l e R s m args below meth c B.U B.locs B.cells B.slots ∧ Post ⟨T.setVm vm₁, locs, cells, slots⟩ argsL.toArray v B ∧
      ∀ target, Steps p.tables e below (B.U.setTop { g with pc := g.pc + 3, stack := v.toList ++ rest }) target → Steps p.tables e below (T.setTop g) target) ∨
    (∃ (q : Addr) (vm₁ : Vm) (B : Pt), s.WarmedH vm₁ ∧ Stand p l e R s m args below meth c B.U B.locs B.cells B.slots ∧ PostX ⟨T.setVm vm₁, locs, cells, slots⟩ argsL.toArray q B ∧
      Steps p.tables e below (T.setTop g) ((B.U.setTop { g with stack := rest }).pushFrame (.throwing q))) := by
  obtain ⟨mk, methM, cM, hnamed, hmethM, -, -, -, -, -, -, hsigM⟩ := Cond.codeWith_spec hcode
  have hstatic : methM.isStatic = true := Cond.static_spec hnamed hmethM hstat
  obtain ⟨kP, hkP, -⟩ := className_of_methodNamed hnamed
  have hinitP : kP.init = .initialized := Cond.initialized_spec (findClass_of_methodNamed hnamed) hkP hinit
  obtain ⟨vm₁, X₁, hstep₁⟩ := X.invokestatic hexec hown hlink hnamed hmethM hstatic hkP hinitP hy (g := g) hg (argsL := argsL) (rest := rest) (hlen _ hsigM) hstack hdg
  rcases hK m meth c ⟨T.setVm vm₁, locs, cells, slots⟩ { g with stack := rest } (.invokestatic index) mk argsL.toArray X₁ hg hsize hdg hW (X₁.named hnamed) (hpre vm₁ X₁.warmed) with ⟨v, B, X', hpost, hsteps⟩ | ⟨q, B, X', hpost, hsteps⟩
  · exact Or.inl ⟨v, vm₁, B, X₁.warmed, X', hpost, fun target h => hstep₁ _ fun acts => by rw [doInvoke_state]; exact hsteps.trans h⟩
  · exact Or.inr ⟨q, vm₁, B, X₁.warmed, X', hpost, hstep₁ _ fun acts => by rw [doInvoke_state]; exact hsteps⟩
theorem vx_callVW (X : Stand p l e R s m args below meth c T locs cells slots) (hexec : p.tables.exec = Jvm.exec) {own C : String} {index : Nat} {y : MethodName} {bytes : ByteArray} {maxL : Nat} {ret : Option FieldType} {hh : List (Nat × Nat × Nat × Nat)}
    (hown : s.vm.findClass own = some m.cls) (hlink : (Cond.methodLink own index y).before args s = true) (hinst : (Cond.instanceMethod y).before args s = true) (hsel : (Cond.selects C y y).before args s = true)
    (hcode : (Cond.codeWith y bytes maxL ret hh).before args s = true) (hy : y.cls ≠ "java/lang/invoke/MethodHandle" ∧ y.cls ≠ "java/lang/invoke/VarHandle")
    {W9 : Nat} {Pre : Pt → Array Value → Prop} {Post : Pt → Array Value → Option Value → Pt → Prop} (hK : Back l R p e below s args y 3 W9 Pre Post)
    {b : Addr} {cellB : Cell} (hcell : T.heap[b]? = some cellB) (hobj : cellB.vm.isStatics = false) (hcls : s.vm.findClass C = some cellB.cls)
    {g : JFrame} (hg : g.method = m) (hsize : g.locals.size = c.maxLocals) {argsL rest : List Value} (hlen : ∀ sig, parseMethodDescriptor y.desc = some sig → argsL.length = sig.parameters.length)
    (hstack : g.stack = argsL.reverse ++ .ref b :: rest) (hW : 2 * g.monitorRoom + (rest.map fun v => v.category).sum ≤ W9) (hdg : decode c.code g.pc = .ok (.invokevirtual index, 3))
    (hpre : ∀ vm₁, s.WarmedH vm₁ → Pre ⟨T.setVm vm₁, locs, cells, slots⟩ (Value.ref b :: argsL).toArray) :
    ∃ (v : Option Value) (vm₁ : Vm) (B : Pt), s.WarmedH vm₁ ∧ Stand p l e R s m args below meth c B.U B.locs B.cells B.slots ∧ Post ⟨T.setVm vm₁, locs, cells, slots⟩ (Value.ref b :: argsL).toArray v B ∧
      ∀ target, Steps p.tables e below (B.U.setTop { g with pc := g.pc + 3, stack := v.toList ++ rest }) target → Steps p.tables e below (T.setTop g) target := by
  obtain ⟨mk, methM, hnamed, hmethM, hstM, habM⟩ := Cond.instanceMethod_spec hinst
  obtain ⟨m8, methM', cM, hn8, hmethM', -, -, -, -, -, -, hsigM⟩ := Cond.codeWith_spec hcode
  cases Option.some.inj (hn8.symm.trans hnamed)
  cases hmethM.symm.trans hmethM'
  obtain ⟨c2, r2, m2, q1, q2, q3, q4, kP, hkP, hkPi⟩ := Cond.selects_spec hsel
  cases hcls.symm.trans q1
  cases (State.methodFound?_of_named hnamed hy).symm.trans q2
  cases hnamed.symm.trans q3
  have hselP : selectMethod e.platform s.vm cellB.cls mk = .method mk := by rw [Launch.admits_selectMethod X.admits]; exact q4
  obtain ⟨vm₁, X₁, hstep₁⟩ := X.invokevirtual hexec hown hlink hnamed hmethM hstM hkP hkPi hy (a := b) (cell := cellB) hcell
    (fun z h => by rw [h] at hobj; cases hobj) hselP hmethM habM hkP hkPi (g := g) hg (argsL := argsL) (rest := rest) (hlen _ hsigM) hstack hdg
  obtain ⟨v, B, X', hpost, hsteps⟩ := hK m meth c ⟨T.setVm vm₁, locs, cells, slots⟩ { g with stack := rest } (.invokevirtual index) mk (Value.ref b :: argsL).toArray X₁ hg hsize hdg hW (X₁.named hnamed) (hpre vm₁ X₁.warmed)
  exact ⟨v, vm₁, B, X₁.warmed, X', hpost, fun target h => hstep₁ _ fun acts => by rw [doInvoke_state]; exact hsteps.trans h⟩
abbrev vx_CVW (R : Room) (s : State) (args : Array Value) (own C : String) (index : Nat) (y : MethodName) (bytes : ByteArray) (maxL : Nat) (ret : Option FieldType) (hh : List (Nat × Nat × Nat × Nat)) (ws : List Cond) (rm : Room) (mc ms n : Nat) : Prop :=
  (rm.cells = mc ∧ rm.slots = ms ∧ rm.frames + 1 ≤ R.frames ∧ 8 + (maxL + 11) + rm.locals ≤ R.locals ∧ (∀ w ∈ ws, ∀ (a' : Array Value) (U : State), s.WarmedH U.vm → w.before a' U = true) ∧ Cond.codeWith y bytes maxL ret hh ∈ ws) ∧
  (Cond.codeWith y bytes maxL ret hh).before args s = true ∧ (Cond.initialized y.cls).before args s = true ∧ (y.cls ≠ "java/lang/invoke/MethodHandle" ∧ y.cls ≠ "java/lang/invoke/VarHandle") ∧
  (∀ sig, parseMethodDescriptor y.desc = some sig → n = sig.parameters.length) ∧ (Cond.methodLink own index y).before args s = true ∧ (Cond.instanceMethod y).before args s = true ∧ (Cond.selects C y y).before args s = true
theorem vx_cwVW {own C : String} {index maxL mc ms : Nat} {y : MethodName} {bytes : ByteArray} {ret : Option FieldType} {hh : List (Nat × Nat × Nat × Nat)} {Ts ws ws' : List Cond} {rm : Room} (n : Nat) (ht : ∀ w ∈ Ts, w.before args s = true) (hT : GoodIn Ts (wsV own index C y ws)) (hw : ws = Cond.codeWith y bytes maxL ret hh :: ws') (hrc : rm.cells = mc) (hrs : rm.slots = ms)
    (hd : y.cls = C ∧ y.cls ≠ "java/lang/invoke/MethodHandle" ∧ y.cls ≠ "java/lang/invoke/VarHandle" ∧ (parseMethodDescriptor y.desc).map (fun d => d.parameters.length) = some n) (hR : rm.frames + 1 ≤ R.frames ∧ 8 + (maxL + 11) + rm.locals ≤ R.locals) :
    vx_CVW R s args own C index y bytes maxL ret hh ws rm mc ms n := by
  obtain ⟨hC, hd⟩ := hd
  subst hC
  have ok : ∀ w ∈ wsV own index y.cls y ws, w.before args s = true := fun w h => ht w (hT w h).1
  have hG : GoodIn Ts ws := fun w h => hT w (by unfold wsV; exact List.mem_append_right _ h)
  have hc : Cond.codeWith y bytes maxL ret hh ∈ ws := by rw [hw]; exact List.mem_cons_self
  refine ⟨⟨hrc, hrs, hR.1, hR.2, pay_in ht hG, hc⟩, ht _ (hG _ hc).1, ok _ (by simp [wsV]), ⟨hd.1, hd.2.1⟩, fun sig h => ?_, ok _ (by simp [wsV]), ok _ (by simp [wsV]), ok _ (by simp [wsV])⟩
  have h2 := hd.2.2
  rw [h] at h2
  exact (Option.some.inj h2).symm
theorem vx_runVW {y : MethodName} {bytes cc : ByteArray} {maxL nL mc ms n index : Nat} {ret : Option FieldType} {hh : List (Nat × Nat × Nat × Nat)} {ws : List Cond} {rm : Room} {Pc : Array Value → State → Prop} {Qc : Array Value → State → Outcome → State → Prop} {free : Addr → Prop} {Ts : List Cond} {own C : String} {b : Addr} {As rest : List Value} {g : JFrame}
    (S : CallFix p m c cc nL s args Ts own) (hM : Met l y ws rm Pc Qc mc ms free) (cw : vx_CVW R s args own C index y bytes maxL ret hh ws rm mc ms n) (hp : PreV s H C b Pc As)
    (hg : g.method = m) (hn : As.length = n) (hsize : g.locals.size = nL) (hstack : g.stack = As.reverse ++ .ref b :: rest) (hW : 2 * g.monitorRoom + (rest.map fun v => v.category).sum ≤ 8) (hdg : decode cc g.pc = .ok (.invokevirtual index, 3)) (hf : cells + mc ≤ R.cells ∧ slots + ms ≤ R.slots) :
    va_Run p l e R s m args below meth c H locs cells slots mc ms g rest (Qc (Value.ref b :: As).toArray) free := by
  obtain ⟨⟨hrc, hrs, hfr, hlo, hws, hcw⟩, hcode, hini, hy, hlen, hl, hin, hse⟩ := cw
  have hK : Back l R p e below s args y 3 8 (PreOf R mc ms Pc) (PostOf Qc mc ms free) := va_backW (hh := hh) (bytes := bytes) (maxL := maxL) (ret := ret) hM hp.1 hrc hrs hfr hlo hws hcw (fun a' U hW => word_at hW (Or.inl (by first | rfl | simp [Cond.onTables, Cond.keeps, Cond.steady])) hini)
  obtain ⟨hx, hb, hml, ho, -⟩ := S
  obtain ⟨-, ⟨cellB, hcB, hoB, hclB⟩, hPc⟩ := hp
  intro T hT X
  obtain ⟨v, vm₁, ⟨U', l2, c2, s2⟩, hW₁, X', ⟨g', mk, t, L, e1, e2, hq, h1, hL, h2, h3⟩, st⟩ := vx_callVW X hx (C := C) (hh := hh) (bytes := bytes) (maxL := maxL) (ret := ret) ho hl hin hse hcode hy hK (by rw [hT]; exact hcB) hoB hclB hg (hsize.trans hml.symm) (argsL := As) (rest := rest) (fun sig h => hn.trans (hlen sig h)) hstack hW (by rw [hb]; exact hdg)
    (fun vm₁ hW₁ => ⟨hf.1, hf.2, hPc (T.setVm vm₁) hT hW₁⟩)
  dsimp only [Pt.U, Pt.locs, Pt.cells, Pt.slots] at X' e1 e2 h1 h2 h3 st
  subst h1; subst h2; subst h3
  exact ⟨v, (T.setVm vm₁).calling g' mk (Value.ref b :: As).toArray, t, U', L, hT, X', hL, e1, e2, hq, st⟩
section
variable {y : MethodName} {bytes cc : ByteArray} {maxL nL mc ms n index : Nat} {ret : Option FieldType} {ws : List Cond} {rm : Room} {Pc : Array Value → State → Prop} {Qc : Array Value → State → Outcome → State → Prop} {XC : String → State → State → Prop} {free : Addr → Prop} {Ts : List Cond} {own C : String} {b : Addr} {As rest : List Value} {g : JFrame}
theorem vx_runVX {hh : List (Nat × Nat × Nat × Nat)} (S : CallFix p m c cc nL s args Ts own) (hM : vx_Met l y ws rm Pc Qc XC mc ms free) (cw : vx_CVW R s args own C index y bytes maxL ret hh ws rm mc ms n) (hp : PreV s H C b Pc As)
    (hg : g.method = m) (hn : As.length = n) (hsize : g.locals.size = nL) (hstack : g.stack = As.reverse ++ .ref b :: rest) (hW : 2 * g.monitorRoom + (rest.map fun v => v.category).sum ≤ 8) (hdg : decode cc g.pc = .ok (.invokevirtual index, 3)) (hf : cells + mc ≤ R.cells ∧ slots + ms ≤ R.slots) :
    vx_Run p l e R s m args below meth c H locs cells slots mc ms g rest (Qc (Value.ref b :: As).toArray) XC free := by
  obtain ⟨⟨hrc, hrs, hfr, hlo, hws, hcw⟩, hcode, hini, hy, hlen, hl, hin, hse⟩ := cw
  have hK : vx_Back l R p e below s args y 3 8 (PreOf R mc ms Pc) (PostOf Qc mc ms free) (vx_Post XC mc ms free) := vx_backW (hh := hh) (bytes := bytes) (maxL := maxL) (ret := ret) hM hp.1 hrc hrs hfr hlo hws hcw (fun a' U hW => word_at hW (Or.inl (by first | rfl | simp [Cond.onTables, Cond.keeps, Cond.steady])) hini)
  obtain ⟨hx, hb, hml, ho, -⟩ := S
  obtain ⟨-, ⟨cellB, hcB, hoB, hclB⟩, hPc⟩ := hp
  intro T hT X
  rcases vx_callVX X hx (C := C) (hh := hh) (bytes := bytes) (maxL := maxL) (ret := ret) ho hl hin hse hcode hy hK (by rw [hT]; exact hcB) hoB hclB hg (hsize.trans hml.symm) (argsL := As) (rest := rest) (fun sig h => hn.trans (hlen sig h)) hstack hW (by rw [hb]; exact hdg)
    (fun vm₁ hW₁ => ⟨hf.1, hf.2, hPc (T.setVm vm₁) hT hW₁⟩) with ⟨v, vm₁, ⟨U', l2, c2, s2⟩, hW₁, X', ⟨g', mk, t, L, e1, e2, hq, h1, hL, h2, h3⟩, st⟩ | ⟨q, vm₁, ⟨U', l2, c2, s2⟩, hW₁, X', ⟨g', mk, t, L, E, ce, e1, e2, hq, hce, hcv, hcl, h1, hL, h2, h3⟩, st⟩
  · dsimp only [Pt.U, Pt.locs, Pt.cells, Pt.slots] at X' e1 e2 h1 h2 h3 st
    subst h1; subst h2; subst h3
    exact Or.inl ⟨v, (T.setVm vm₁).calling g' mk (Value.ref b :: As).toArray, t, U', L, hT, X', hL, e1, e2, hq, st⟩
  · dsimp only [Pt.U, Pt.locs, Pt.cells, Pt.slots] at X' e1 e2 h1 h2 h3 st hcl
    subst h1; subst h2; subst h3
    exact Or.inr ⟨q, (T.setVm vm₁).calling g' mk (Value.ref b :: As).toArray, t, U', L, E, ce, hT, X', hL, e1, e2, hq, hce, hcv, vx_cls hW₁ hcl, st⟩
theorem vx_runSX {hh : List (Nat × Nat × Nat × Nat)} (S : CallFix p m c cc nL s args Ts own) (hM : vx_Met l y ws rm Pc Qc XC mc ms free) (cw : vx_CSW R s args own index y bytes maxL ret hh ws rm mc ms n) (hp : PreS s H Pc As)
    (hg : g.method = m) (hn : As.length = n) (hsize : g.locals.size = nL) (hstack : g.stack = As.reverse ++ rest) (hW : 2 * g.monitorRoom + (rest.map fun v => v.category).sum ≤ 8) (hdg : decode cc g.pc = .ok (.invokestatic index, 3)) (hf : cells + mc ≤ R.cells ∧ slots + ms ≤ R.slots) :
    vx_Run p l e R s m args below meth c H locs cells slots mc ms g rest (Qc As.toArray) XC free := by
  obtain ⟨⟨hrc, hrs, hfr, hlo, hws, hcw⟩, hcode, hini, hy, hlen, hl, hstt⟩ := cw
  have hK : vx_Back l R p e below s args y 3 8 (PreOf R mc ms Pc) (PostOf Qc mc ms free) (vx_Post XC mc ms free) := vx_backW (hh := hh) (bytes := bytes) (maxL := maxL) (ret := ret) hM hp.1 hrc hrs hfr hlo hws hcw (fun a' U hW => word_at hW (Or.inl (by first | rfl | simp [Cond.onTables, Cond.keeps, Cond.steady])) hini)
  obtain ⟨hx, hb, hml, ho, -⟩ := S
  intro T hT X
  rcases vx_callSX X hx (hh := hh) (bytes := bytes) (maxL := maxL) (ret := ret) ho hl hstt hini hcode hy hK hg (hsize.trans hml.symm) (argsL := As) (rest := rest) (fun sig h => hn.trans (hlen sig h)) hstack hW (by rw [hb]; exact hdg)
    (fun vm₁ hW₁ => ⟨hf.1, hf.2, hp.2 (T.setVm vm₁) hT hW₁⟩) with ⟨v, vm₁, ⟨U', l2, c2, s2⟩, hW₁, X', ⟨g', mk, t, L, e1, e2, hq, h1, hL, h2, h3⟩, st⟩ | ⟨q, vm₁, ⟨U', l2, c2, s2⟩, hW₁, X', ⟨g', mk, t, L, E, ce, e1, e2, hq, hce, hcv, hcl, h1, hL, h2, h3⟩, st⟩
  · dsimp only [Pt.U, Pt.locs, Pt.cells, Pt.slots] at X' e1 e2 h1 h2 h3 st
    subst h1; subst h2; subst h3
    exact Or.inl ⟨v, (T.setVm vm₁).calling g' mk As.toArray, t, U', L, hT, X', hL, e1, e2, hq, st⟩
  · dsimp only [Pt.U, Pt.locs, Pt.cells, Pt.slots] at X' e1 e2 h1 h2 h3 st hcl
    subst h1; subst h2; subst h3
    exact Or.inr ⟨q, (T.setVm vm₁).calling g' mk As.toArray, t, U', L, E, ce, hT, X', hL, e1, e2, hq, hce, hcv, vx_cls hW₁ hcl, st⟩
end
end VXH
theorem vx_ofWH {l : Launch} {y : MethodName} {ws ws' : List Cond} {rm : Room} {Pc : Array Value → State → Prop} {Qc : Array Value → State → Outcome → State → Prop} {XC : String → State → State → Prop} {mc ms : Nat} {free : Addr → Prop} {cc : ByteArray} {maxL : Nat} {ret : Option FieldType} {hh : List (Nat × Nat × Nat × Nat)}
    (hy : plainName y.cls = true) (hw : ws = Cond.codeWith y cc maxL ret hh :: ws')
    (body : ∀ p e s m args below meth c s₁, BodyLoose p l y (headSpec ws rm) cc maxL ret e s m args below meth c s₁ → c.maxLocals = maxL → Pc args s →
      W p l e (headSpec ws rm).room s m args below meth c s.heap [] 0 0 (vx_MQ below Qc XC args s mc ms free) (entryFrame m args maxL)) : vx_Met l y ws rm Pc Qc XC mc ms free := by
  refine MetFree.of_bodyS (code := cc) (maxLocals := maxL) (ret := ret) hy ?_ ?_
  · intro args s m h hn
    obtain ⟨m9, meth, c, hn9, h1, h2, h3, h4, -, h5, h6, -⟩ := Cond.codeWith_spec (atoms_spec (ws := ws) h _ (by rw [hw]; exact List.mem_cons_self))
    cases hn.symm.trans hn9
    exact ⟨meth, c, h1, h2, h3, h4, h5, h6⟩
  · intro p e s m args below meth c s₁ B hml hP _
    have hh0 : s₁.heap = s.heap := by rw [B.state]; rfl
    obtain ⟨t, a1, o, b1, b2, b3⟩ := body p e s m args below meth c s₁ B hml hP s₁ hh0 (Stand.of_body B)
    exact ⟨t, o, a1, b1, b2, b3⟩
/-! ===== END ===== -/
end
section
def RX0 : String := "CoreScheduler"
def TX0 : u_T := fun k => match k with
  | 0 => ("CoreScheduler", "taskCpu", "[I", true)
  | 1 => ("CoreScheduler", "taskWeight", "[I", true)
  | 2 => ("CoreScheduler", "taskCookie", "[I", true)
  | 3 => ("CoreScheduler", "taskState", "[I", true)
  | 4 => ("CoreScheduler", "taskTime", "[J", true)
  | 5 => ("CoreScheduler", "taskRun", "[I", true)
  | 6 => ("CoreScheduler", "taskWait", "[I", true)
  | 7 => ("CoreScheduler", "cpuBase", "[J", true)
  | 8 => ("CoreScheduler", "cpuTask", "[I", true)
  | 9 => ("CoreScheduler", "cpuForced", "[Z", true)
  | 10 => ("CoreScheduler", "cpuIdle", "[I", true)
  | 11 => ("CoreScheduler", "cpuForcedIdle", "[I", true)
  | 12 => ("CoreScheduler", "pickedCookie", "[I", true)
  | 13 => ("CoreScheduler", "coreTotal", "I", false)
  | 14 => ("CoreScheduler", "taskTotal", "I", false)
  | 15 => ("CoreScheduler", "stolenTotal", "I", false)
  | _ => ("CoreScheduler", "stealing", "Z", false)
def tyX0 : Nat → FieldType := fun k => match k with
  | 0 => .array .int
  | 1 => .array .int
  | 2 => .array .int
  | 3 => .array .int
  | 4 => .array .long
  | 5 => .array .int
  | 6 => .array .int
  | 7 => .array .long
  | 8 => .array .int
  | 9 => .array .boolean
  | 10 => .array .int
  | 11 => .array .int
  | 12 => .array .int
  | 13 => .int
  | 14 => .int
  | 15 => .int
  | _ => .boolean
abbrev wsX00 : List Cond := u_ws RX0 TX0 17
theorem nmX0 : ∀ a, a < 17 → ∀ b, b < 17 → a ≠ b → (TX0 a).2.1 ≠ (TX0 b).2.1 := by decide +kernel
theorem tyX0_ok : ∀ k, k < 17 → parseFieldDescriptor (TX0 k).2.2.1 = some (tyX0 k) := by decide +kernel
abbrev cX0_init : ByteArray := prog_1_method_1_code
def yX0_init : MethodName := ⟨RX0, "<init>", "()V"⟩
abbrev cX0_reset : ByteArray := prog_1_method_2_code
def yX0_reset : MethodName := ⟨RX0, "reset", "(I)I"⟩
abbrev cX0_setStealing : ByteArray := prog_1_method_3_code
def yX0_setStealing : MethodName := ⟨RX0, "setStealing", "(Z)Z"⟩
abbrev cX0_tick : ByteArray := prog_1_method_4_code
def yX0_tick : MethodName := ⟨RX0, "tick", "(I)I"⟩
abbrev cX0_createTask : ByteArray := prog_1_method_5_code
def yX0_createTask : MethodName := ⟨RX0, "createTask", "(III)I"⟩
abbrev cX0_sleep : ByteArray := prog_1_method_6_code
def yX0_sleep : MethodName := ⟨RX0, "sleep", "(I)I"⟩
abbrev cX0_wake : ByteArray := prog_1_method_7_code
def yX0_wake : MethodName := ⟨RX0, "wake", "(I)J"⟩
abbrev cX0_exit : ByteArray := prog_1_method_8_code
def yX0_exit : MethodName := ⟨RX0, "exit", "(I)I"⟩
abbrev cX0_setWeight : ByteArray := prog_1_method_9_code
def yX0_setWeight : MethodName := ⟨RX0, "setWeight", "(II)I"⟩
abbrev cX0_setCookie : ByteArray := prog_1_method_10_code
def yX0_setCookie : MethodName := ⟨RX0, "setCookie", "(II)I"⟩
abbrev cX0_moveTask : ByteArray := prog_1_method_11_code
def yX0_moveTask : MethodName := ⟨RX0, "moveTask", "(II)I"⟩
abbrev cX0_taskCount : ByteArray := prog_1_method_12_code
def yX0_taskCount : MethodName := ⟨RX0, "taskCount", "()I"⟩
abbrev cX0_stateOf : ByteArray := prog_1_method_13_code
def yX0_stateOf : MethodName := ⟨RX0, "stateOf", "(I)I"⟩
abbrev cX0_cpuOf : ByteArray := prog_1_method_14_code
def yX0_cpuOf : MethodName := ⟨RX0, "cpuOf", "(I)I"⟩
abbrev cX0_virtualTime : ByteArray := prog_1_method_15_code
def yX0_virtualTime : MethodName := ⟨RX0, "virtualTime", "(I)J"⟩
abbrev cX0_runTicks : ByteArray := prog_1_method_16_code
def yX0_runTicks : MethodName := ⟨RX0, "runTicks", "(I)I"⟩
abbrev cX0_waitTicks : ByteArray := prog_1_method_17_code
def yX0_waitTicks : MethodName := ⟨RX0, "waitTicks", "(I)I"⟩
abbrev cX0_share : ByteArray := prog_1_method_18_code
def yX0_share : MethodName := ⟨RX0, "share", "(I)D"⟩
abbrev cX0_runningTask : ByteArray := prog_1_method_19_code
def yX0_runningTask : MethodName := ⟨RX0, "runningTask", "(I)I"⟩
abbrev cX0_coreCookie : ByteArray := prog_1_method_20_code
def yX0_coreCookie : MethodName := ⟨RX0, "coreCookie", "(I)I"⟩
abbrev cX0_leaderOf : ByteArray := prog_1_method_21_code
def yX0_leaderOf : MethodName := ⟨RX0, "leaderOf", "(I)I"⟩
abbrev cX0_queueLength : ByteArray := prog_1_method_22_code
def yX0_queueLength : MethodName := ⟨RX0, "queueLength", "(I)I"⟩
abbrev cX0_queuedTask : ByteArray := prog_1_method_23_code
def yX0_queuedTask : MethodName := ⟨RX0, "queuedTask", "(II)I"⟩
abbrev cX0_baseOf : ByteArray := prog_1_method_24_code
def yX0_baseOf : MethodName := ⟨RX0, "baseOf", "(I)J"⟩
abbrev cX0_idleTicks : ByteArray := prog_1_method_25_code
def yX0_idleTicks : MethodName := ⟨RX0, "idleTicks", "(I)I"⟩
abbrev cX0_forcedIdleTicks : ByteArray := prog_1_method_26_code
def yX0_forcedIdleTicks : MethodName := ⟨RX0, "forcedIdleTicks", "(I)I"⟩
abbrev cX0_stolenTasks : ByteArray := prog_1_method_27_code
def yX0_stolenTasks : MethodName := ⟨RX0, "stolenTasks", "()I"⟩
abbrev cX0_checkTask : ByteArray := prog_1_method_28_code
def yX0_checkTask : MethodName := ⟨RX0, "checkTask", "(I)V"⟩
abbrev cX0_checkCpu : ByteArray := prog_1_method_29_code
def yX0_checkCpu : MethodName := ⟨RX0, "checkCpu", "(I)V"⟩
abbrev cX0_checkCore : ByteArray := prog_1_method_30_code
def yX0_checkCore : MethodName := ⟨RX0, "checkCore", "(I)V"⟩
abbrev cX0_checkWeight : ByteArray := prog_1_method_31_code
def yX0_checkWeight : MethodName := ⟨RX0, "checkWeight", "(I)V"⟩
abbrev cX0_checkCookie : ByteArray := prog_1_method_32_code
def yX0_checkCookie : MethodName := ⟨RX0, "checkCookie", "(I)V"⟩
abbrev cX0_checkNotExited : ByteArray := prog_1_method_33_code
def yX0_checkNotExited : MethodName := ⟨RX0, "checkNotExited", "(I)V"⟩
abbrev cX0_startAnew : ByteArray := prog_1_method_34_code
def yX0_startAnew : MethodName := ⟨RX0, "startAnew", "(I)V"⟩
abbrev cX0_cpuTotal : ByteArray := prog_1_method_35_code
def yX0_cpuTotal : MethodName := ⟨RX0, "cpuTotal", "()I"⟩
abbrev cX0_coreOfCpu : ByteArray := prog_1_method_36_code
def yX0_coreOfCpu : MethodName := ⟨RX0, "coreOfCpu", "(I)I"⟩
abbrev cX0_isRunnable : ByteArray := prog_1_method_37_code
def yX0_isRunnable : MethodName := ⟨RX0, "isRunnable", "(I)Z"⟩
abbrev cX0_isQueued : ByteArray := prog_1_method_38_code
def yX0_isQueued : MethodName := ⟨RX0, "isQueued", "(II)Z"⟩
abbrev cX0_isOnCore : ByteArray := prog_1_method_39_code
def yX0_isOnCore : MethodName := ⟨RX0, "isOnCore", "(II)Z"⟩
abbrev cX0_relativeTime : ByteArray := prog_1_method_40_code
def yX0_relativeTime : MethodName := ⟨RX0, "relativeTime", "(I)J"⟩
abbrev cX0_comesBefore : ByteArray := prog_1_method_41_code
def yX0_comesBefore : MethodName := ⟨RX0, "comesBefore", "(II)Z"⟩
abbrev cX0_positionOf : ByteArray := prog_1_method_42_code
def yX0_positionOf : MethodName := ⟨RX0, "positionOf", "(I)I"⟩
abbrev cX0_countQueue : ByteArray := prog_1_method_43_code
def yX0_countQueue : MethodName := ⟨RX0, "countQueue", "(I)I"⟩
abbrev cX0_enterQueue : ByteArray := prog_1_method_44_code
def yX0_enterQueue : MethodName := ⟨RX0, "enterQueue", "(I)V"⟩
abbrev cX0_stopTask : ByteArray := prog_1_method_45_code
def yX0_stopTask : MethodName := ⟨RX0, "stopTask", "(II)I"⟩
abbrev cX0_moveRunnable : ByteArray := prog_1_method_46_code
def yX0_moveRunnable : MethodName := ⟨RX0, "moveRunnable", "(II)V"⟩
abbrev cX0_pickForCore : ByteArray := prog_1_method_47_code
def yX0_pickForCore : MethodName := ⟨RX0, "pickForCore", "(I)V"⟩
abbrev cX0_findLeader : ByteArray := prog_1_method_48_code
def yX0_findLeader : MethodName := ⟨RX0, "findLeader", "(I)I"⟩
abbrev cX0_releaseTasks : ByteArray := prog_1_method_49_code
def yX0_releaseTasks : MethodName := ⟨RX0, "releaseTasks", "(I)V"⟩
abbrev cX0_takeTask : ByteArray := prog_1_method_50_code
def yX0_takeTask : MethodName := ⟨RX0, "takeTask", "(II)I"⟩
abbrev cX0_findOwn : ByteArray := prog_1_method_51_code
def yX0_findOwn : MethodName := ⟨RX0, "findOwn", "(II)I"⟩
abbrev cX0_findLoot : ByteArray := prog_1_method_52_code
def yX0_findLoot : MethodName := ⟨RX0, "findLoot", "(II)I"⟩
abbrev cX0_isLoot : ByteArray := prog_1_method_53_code
def yX0_isLoot : MethodName := ⟨RX0, "isLoot", "(III)Z"⟩
abbrev cX0_giveToCpu : ByteArray := prog_1_method_54_code
def yX0_giveToCpu : MethodName := ⟨RX0, "giveToCpu", "(II)V"⟩
abbrev cX0_simulateTick : ByteArray := prog_1_method_55_code
def yX0_simulateTick : MethodName := ⟨RX0, "simulateTick", "()I"⟩
abbrev cX0_chargeTasks : ByteArray := prog_1_method_56_code
def yX0_chargeTasks : MethodName := ⟨RX0, "chargeTasks", "()I"⟩
abbrev cX0_costOfTick : ByteArray := prog_1_method_57_code
def yX0_costOfTick : MethodName := ⟨RX0, "costOfTick", "(I)I"⟩
abbrev cX0_countIdleCpus : ByteArray := prog_1_method_58_code
def yX0_countIdleCpus : MethodName := ⟨RX0, "countIdleCpus", "()V"⟩
abbrev cX0_raiseBases : ByteArray := prog_1_method_59_code
def yX0_raiseBases : MethodName := ⟨RX0, "raiseBases", "()V"⟩
abbrev cX0_findLeastTime : ByteArray := prog_1_method_60_code
def yX0_findLeastTime : MethodName := ⟨RX0, "findLeastTime", "(I)I"⟩
def RX1 : String := "CoreSchedulerModel"
def TX1 : u_T := fun k => match k with
  | 0 => ("CoreSchedulerModel", "fault", "I", false)
  | 1 => ("CoreSchedulerModel", "cores", "I", false)
  | 2 => ("CoreSchedulerModel", "stealing", "Z", false)
  | 3 => ("CoreSchedulerModel", "stolen", "I", false)
  | 4 => ("CoreSchedulerModel", "base", "[J", true)
  | 5 => ("CoreSchedulerModel", "runs", "[I", true)
  | 6 => ("CoreSchedulerModel", "forced", "[Z", true)
  | 7 => ("CoreSchedulerModel", "idle", "[I", true)
  | 8 => ("CoreSchedulerModel", "forcedIdle", "[I", true)
  | 9 => ("CoreSchedulerModel", "coreCookie", "[I", true)
  | 10 => ("CoreSchedulerModel", "tasks", "I", false)
  | 11 => ("CoreSchedulerModel", "cpu", "[I", true)
  | 12 => ("CoreSchedulerModel", "weight", "[I", true)
  | 13 => ("CoreSchedulerModel", "cookie", "[I", true)
  | 14 => ("CoreSchedulerModel", "state", "[I", true)
  | 15 => ("CoreSchedulerModel", "time", "[J", true)
  | 16 => ("CoreSchedulerModel", "ran", "[I", true)
  | _ => ("CoreSchedulerModel", "waited", "[I", true)
def tyX1 : Nat → FieldType := fun k => match k with
  | 0 => .int
  | 1 => .int
  | 2 => .boolean
  | 3 => .int
  | 4 => .array .long
  | 5 => .array .int
  | 6 => .array .boolean
  | 7 => .array .int
  | 8 => .array .int
  | 9 => .array .int
  | 10 => .int
  | 11 => .array .int
  | 12 => .array .int
  | 13 => .array .int
  | 14 => .array .int
  | 15 => .array .long
  | 16 => .array .int
  | _ => .array .int
abbrev wsX10 : List Cond := u_ws RX1 TX1 18
theorem nmX1 : ∀ a, a < 18 → ∀ b, b < 18 → a ≠ b → (TX1 a).2.1 ≠ (TX1 b).2.1 := by decide +kernel
theorem tyX1_ok : ∀ k, k < 18 → parseFieldDescriptor (TX1 k).2.2.1 = some (tyX1 k) := by decide +kernel
abbrev cX1_init : ByteArray := prog_3_method_1_code
def yX1_init : MethodName := ⟨RX1, "<init>", "()V"⟩
abbrev cX1_thrown : ByteArray := prog_3_method_2_code
def yX1_thrown : MethodName := ⟨RX1, "thrown", "()I"⟩
abbrev cX1_in : ByteArray := prog_3_method_3_code
def yX1_in : MethodName := ⟨RX1, "in", "(JJJ)Z"⟩
abbrev cX1_begins : ByteArray := prog_3_method_4_code
def yX1_begins : MethodName := ⟨RX1, "begins", "(I)V"⟩
abbrev cX1_isRefused : ByteArray := prog_3_method_5_code
def yX1_isRefused : MethodName := ⟨RX1, "isRefused", "(ZZ)Z"⟩
abbrev cX1_noTask : ByteArray := prog_3_method_6_code
def yX1_noTask : MethodName := ⟨RX1, "noTask", "(I)Z"⟩
abbrev cX1_noCpu : ByteArray := prog_3_method_7_code
def yX1_noCpu : MethodName := ⟨RX1, "noCpu", "(I)Z"⟩
abbrev cX1_noCore : ByteArray := prog_3_method_8_code
def yX1_noCore : MethodName := ⟨RX1, "noCore", "(I)Z"⟩
abbrev cX1_reset : ByteArray := prog_3_method_9_code
def yX1_reset : MethodName := ⟨RX1, "reset", "(I)I"⟩
abbrev cX1_setStealing : ByteArray := prog_3_method_10_code
def yX1_setStealing : MethodName := ⟨RX1, "setStealing", "(Z)Z"⟩
abbrev cX1_isRunnable : ByteArray := prog_3_method_11_code
def yX1_isRunnable : MethodName := ⟨RX1, "isRunnable", "(I)Z"⟩
abbrev cX1_relative : ByteArray := prog_3_method_12_code
def yX1_relative : MethodName := ⟨RX1, "relative", "(I)J"⟩
abbrev cX1_isAhead : ByteArray := prog_3_method_13_code
def yX1_isAhead : MethodName := ⟨RX1, "isAhead", "(II)Z"⟩
abbrev cX1_leader : ByteArray := prog_3_method_14_code
def yX1_leader : MethodName := ⟨RX1, "leader", "(I)I"⟩
abbrev cX1_firstOf : ByteArray := prog_3_method_15_code
def yX1_firstOf : MethodName := ⟨RX1, "firstOf", "(II)I"⟩
abbrev cX1_toSteal : ByteArray := prog_3_method_16_code
def yX1_toSteal : MethodName := ⟨RX1, "toSteal", "(II)I"⟩
abbrev cX1_goesTo : ByteArray := prog_3_method_17_code
def yX1_goesTo : MethodName := ⟨RX1, "goesTo", "(II)V"⟩
abbrev cX1_queued : ByteArray := prog_3_method_18_code
def yX1_queued : MethodName := ⟨RX1, "queued", "(I)I"⟩
abbrev cX1_picks : ByteArray := prog_3_method_19_code
def yX1_picks : MethodName := ⟨RX1, "picks", "(I)V"⟩
abbrev cX1_tickOne : ByteArray := prog_3_method_20_code
def yX1_tickOne : MethodName := ⟨RX1, "tickOne", "()I"⟩
abbrev cX1_tick : ByteArray := prog_3_method_21_code
def yX1_tick : MethodName := ⟨RX1, "tick", "(I)I"⟩
abbrev cX1_noWeight : ByteArray := prog_3_method_22_code
def yX1_noWeight : MethodName := ⟨RX1, "noWeight", "(I)Z"⟩
abbrev cX1_noCookie : ByteArray := prog_3_method_23_code
def yX1_noCookie : MethodName := ⟨RX1, "noCookie", "(I)Z"⟩
abbrev cX1_createTask : ByteArray := prog_3_method_24_code
def yX1_createTask : MethodName := ⟨RX1, "createTask", "(III)I"⟩
abbrev cX1_becomes : ByteArray := prog_3_method_25_code
def yX1_becomes : MethodName := ⟨RX1, "becomes", "(II)I"⟩
abbrev cX1_sleep : ByteArray := prog_3_method_26_code
def yX1_sleep : MethodName := ⟨RX1, "sleep", "(I)I"⟩
abbrev cX1_wake : ByteArray := prog_3_method_27_code
def yX1_wake : MethodName := ⟨RX1, "wake", "(I)J"⟩
abbrev cX1_hasExited : ByteArray := prog_3_method_28_code
def yX1_hasExited : MethodName := ⟨RX1, "hasExited", "(I)Z"⟩
abbrev cX1_exit : ByteArray := prog_3_method_29_code
def yX1_exit : MethodName := ⟨RX1, "exit", "(I)I"⟩
abbrev cX1_setWeight : ByteArray := prog_3_method_30_code
def yX1_setWeight : MethodName := ⟨RX1, "setWeight", "(II)I"⟩
abbrev cX1_setCookie : ByteArray := prog_3_method_31_code
def yX1_setCookie : MethodName := ⟨RX1, "setCookie", "(II)I"⟩
abbrev cX1_moveTask : ByteArray := prog_3_method_32_code
def yX1_moveTask : MethodName := ⟨RX1, "moveTask", "(II)I"⟩
abbrev cX1_taskCount : ByteArray := prog_3_method_33_code
def yX1_taskCount : MethodName := ⟨RX1, "taskCount", "()I"⟩
abbrev cX1_stateOf : ByteArray := prog_3_method_34_code
def yX1_stateOf : MethodName := ⟨RX1, "stateOf", "(I)I"⟩
abbrev cX1_cpuOf : ByteArray := prog_3_method_35_code
def yX1_cpuOf : MethodName := ⟨RX1, "cpuOf", "(I)I"⟩
abbrev cX1_virtualTime : ByteArray := prog_3_method_36_code
def yX1_virtualTime : MethodName := ⟨RX1, "virtualTime", "(I)J"⟩
abbrev cX1_runTicks : ByteArray := prog_3_method_37_code
def yX1_runTicks : MethodName := ⟨RX1, "runTicks", "(I)I"⟩
abbrev cX1_waitTicks : ByteArray := prog_3_method_38_code
def yX1_waitTicks : MethodName := ⟨RX1, "waitTicks", "(I)I"⟩
abbrev cX1_share : ByteArray := prog_3_method_39_code
def yX1_share : MethodName := ⟨RX1, "share", "(I)D"⟩
abbrev cX1_runningTask : ByteArray := prog_3_method_40_code
def yX1_runningTask : MethodName := ⟨RX1, "runningTask", "(I)I"⟩
abbrev cX1_coreCookie : ByteArray := prog_3_method_41_code
def yX1_coreCookie : MethodName := ⟨RX1, "coreCookie", "(I)I"⟩
abbrev cX1_leaderOf : ByteArray := prog_3_method_42_code
def yX1_leaderOf : MethodName := ⟨RX1, "leaderOf", "(I)I"⟩
abbrev cX1_queueLength : ByteArray := prog_3_method_43_code
def yX1_queueLength : MethodName := ⟨RX1, "queueLength", "(I)I"⟩
abbrev cX1_queuedTask : ByteArray := prog_3_method_44_code
def yX1_queuedTask : MethodName := ⟨RX1, "queuedTask", "(II)I"⟩
abbrev cX1_baseOf : ByteArray := prog_3_method_45_code
def yX1_baseOf : MethodName := ⟨RX1, "baseOf", "(I)J"⟩
abbrev cX1_idleTicks : ByteArray := prog_3_method_46_code
def yX1_idleTicks : MethodName := ⟨RX1, "idleTicks", "(I)I"⟩
abbrev cX1_forcedIdleTicks : ByteArray := prog_3_method_47_code
def yX1_forcedIdleTicks : MethodName := ⟨RX1, "forcedIdleTicks", "(I)I"⟩
abbrev cX1_stolenTasks : ByteArray := prog_3_method_48_code
def yX1_stolenTasks : MethodName := ⟨RX1, "stolenTasks", "()I"⟩
def RJ9 : String := "java/lang/Math"
def TJ9 : u_T := fun k => match k with
  | _ => ("", "", "", false)
def tyJ9 : Nat → FieldType := fun k => match k with
  | _ => .int
abbrev wsJ90 : List Cond := u_ws RJ9 TJ9 0
theorem nmJ9 : ∀ a, a < 0 → ∀ b, b < 0 → a ≠ b → (TJ9 a).2.1 ≠ (TJ9 b).2.1 := by decide +kernel
theorem tyJ9_ok : ∀ k, k < 0 → parseFieldDescriptor (TJ9 k).2.2.1 = some (tyJ9 k) := by decide +kernel
abbrev cJ9_max_f86c9 : ByteArray := prog_8_method_66_code
def yJ9_max_f86c9 : MethodName := ⟨RJ9, "max", "(JJ)J"⟩
def RJ0 : String := "java/lang/String"
def TJ0 : u_T := fun k => match k with
  | _ => ("", "", "", false)
def tyJ0 : Nat → FieldType := fun k => match k with
  | _ => .int
abbrev wsJ00 : List Cond := u_ws RJ0 TJ0 0
theorem nmJ0 : ∀ a, a < 0 → ∀ b, b < 0 → a ≠ b → (TJ0 a).2.1 ≠ (TJ0 b).2.1 := by decide +kernel
theorem tyJ0_ok : ∀ k, k < 0 → parseFieldDescriptor (TJ0 k).2.2.1 = some (tyJ0 k) := by decide +kernel
def RL : String := "CoreSchedulerLaw"
abbrev cL_reset : ByteArray := method_3_code
def yL_reset : MethodName := ⟨RL, "reset", "(LCoreScheduler;I[J)I"⟩
abbrev cL_tick : ByteArray := method_4_code
def yL_tick : MethodName := ⟨RL, "tick", "(LCoreScheduler;I[J)I"⟩
abbrev cL_createTask : ByteArray := method_5_code
def yL_createTask : MethodName := ⟨RL, "createTask", "(LCoreScheduler;III[J)I"⟩
abbrev cL_sleep : ByteArray := method_6_code
def yL_sleep : MethodName := ⟨RL, "sleep", "(LCoreScheduler;I[J)I"⟩
abbrev cL_wake : ByteArray := method_7_code
def yL_wake : MethodName := ⟨RL, "wake", "(LCoreScheduler;I[J)I"⟩
abbrev cL_exit : ByteArray := method_8_code
def yL_exit : MethodName := ⟨RL, "exit", "(LCoreScheduler;I[J)I"⟩
abbrev cL_setWeight : ByteArray := method_9_code
def yL_setWeight : MethodName := ⟨RL, "setWeight", "(LCoreScheduler;II[J)I"⟩
abbrev cL_setCookie : ByteArray := method_10_code
def yL_setCookie : MethodName := ⟨RL, "setCookie", "(LCoreScheduler;II[J)I"⟩
abbrev cL_moveTask : ByteArray := method_11_code
def yL_moveTask : MethodName := ⟨RL, "moveTask", "(LCoreScheduler;II[J)I"⟩
abbrev cL_stateOf : ByteArray := method_12_code
def yL_stateOf : MethodName := ⟨RL, "stateOf", "(LCoreScheduler;I[J)I"⟩
abbrev cL_cpuOf : ByteArray := method_13_code
def yL_cpuOf : MethodName := ⟨RL, "cpuOf", "(LCoreScheduler;I[J)I"⟩
abbrev cL_virtualTime : ByteArray := method_14_code
def yL_virtualTime : MethodName := ⟨RL, "virtualTime", "(LCoreScheduler;I[J)I"⟩
abbrev cL_runTicks : ByteArray := method_15_code
def yL_runTicks : MethodName := ⟨RL, "runTicks", "(LCoreScheduler;I[J)I"⟩
abbrev cL_waitTicks : ByteArray := method_16_code
def yL_waitTicks : MethodName := ⟨RL, "waitTicks", "(LCoreScheduler;I[J)I"⟩
abbrev cL_share : ByteArray := method_17_code
def yL_share : MethodName := ⟨RL, "share", "(LCoreScheduler;I[D)I"⟩
abbrev cL_runningTask : ByteArray := method_18_code
def yL_runningTask : MethodName := ⟨RL, "runningTask", "(LCoreScheduler;I[J)I"⟩
abbrev cL_coreCookie : ByteArray := method_19_code
def yL_coreCookie : MethodName := ⟨RL, "coreCookie", "(LCoreScheduler;I[J)I"⟩
abbrev cL_leaderOf : ByteArray := method_20_code
def yL_leaderOf : MethodName := ⟨RL, "leaderOf", "(LCoreScheduler;I[J)I"⟩
abbrev cL_queueLength : ByteArray := method_21_code
def yL_queueLength : MethodName := ⟨RL, "queueLength", "(LCoreScheduler;I[J)I"⟩
abbrev cL_queuedTask : ByteArray := method_22_code
def yL_queuedTask : MethodName := ⟨RL, "queuedTask", "(LCoreScheduler;II[J)I"⟩
abbrev cL_baseOf : ByteArray := method_23_code
def yL_baseOf : MethodName := ⟨RL, "baseOf", "(LCoreScheduler;I[J)I"⟩
abbrev cL_idleTicks : ByteArray := method_24_code
def yL_idleTicks : MethodName := ⟨RL, "idleTicks", "(LCoreScheduler;I[J)I"⟩
abbrev cL_forcedIdleTicks : ByteArray := method_25_code
def yL_forcedIdleTicks : MethodName := ⟨RL, "forcedIdleTicks", "(LCoreScheduler;I[J)I"⟩
abbrev cL_law : ByteArray := code
def yL_law : MethodName := ⟨RL, "law", "([I)Z"⟩
abbrev vwCl : List vw_C := [(RX0, TX0, 17), (RX1, TX1, 18)]
end
section
theorem dX0_init_0 : decode cX0_init 0 = .ok (.aload_n 0, 1) := by decide +kernel
theorem dX0_init_1 : decode cX0_init 1 = .ok (.invokespecial 1, 3) := by decide +kernel
theorem dX0_init_4 : decode cX0_init 4 = .ok (.aload_n 0, 1) := by decide +kernel
theorem dX0_init_5 : decode cX0_init 5 = .ok (.bipush 16, 2) := by decide +kernel
theorem dX0_init_7 : decode cX0_init 7 = .ok (.newarray .int, 2) := by decide +kernel
theorem dX0_init_9 : decode cX0_init 9 = .ok (.putfield 9, 3) := by decide +kernel
theorem dX0_init_12 : decode cX0_init 12 = .ok (.aload_n 0, 1) := by decide +kernel
theorem dX0_init_13 : decode cX0_init 13 = .ok (.bipush 16, 2) := by decide +kernel
theorem dX0_init_15 : decode cX0_init 15 = .ok (.newarray .int, 2) := by decide +kernel
theorem dX0_init_17 : decode cX0_init 17 = .ok (.putfield 13, 3) := by decide +kernel
theorem dX0_init_20 : decode cX0_init 20 = .ok (.aload_n 0, 1) := by decide +kernel
theorem dX0_init_21 : decode cX0_init 21 = .ok (.bipush 16, 2) := by decide +kernel
theorem dX0_init_23 : decode cX0_init 23 = .ok (.newarray .int, 2) := by decide +kernel
theorem dX0_init_25 : decode cX0_init 25 = .ok (.putfield 16, 3) := by decide +kernel
theorem dX0_init_28 : decode cX0_init 28 = .ok (.aload_n 0, 1) := by decide +kernel
theorem dX0_init_29 : decode cX0_init 29 = .ok (.bipush 16, 2) := by decide +kernel
theorem dX0_init_31 : decode cX0_init 31 = .ok (.newarray .int, 2) := by decide +kernel
theorem dX0_init_33 : decode cX0_init 33 = .ok (.putfield 19, 3) := by decide +kernel
theorem dX0_init_36 : decode cX0_init 36 = .ok (.aload_n 0, 1) := by decide +kernel
theorem dX0_init_37 : decode cX0_init 37 = .ok (.bipush 16, 2) := by decide +kernel
theorem dX0_init_39 : decode cX0_init 39 = .ok (.newarray .long, 2) := by decide +kernel
theorem dX0_init_41 : decode cX0_init 41 = .ok (.putfield 22, 3) := by decide +kernel
theorem dX0_init_44 : decode cX0_init 44 = .ok (.aload_n 0, 1) := by decide +kernel
theorem dX0_init_45 : decode cX0_init 45 = .ok (.bipush 16, 2) := by decide +kernel
theorem dX0_init_47 : decode cX0_init 47 = .ok (.newarray .int, 2) := by decide +kernel
theorem dX0_init_49 : decode cX0_init 49 = .ok (.putfield 26, 3) := by decide +kernel
theorem dX0_init_52 : decode cX0_init 52 = .ok (.aload_n 0, 1) := by decide +kernel
theorem dX0_init_53 : decode cX0_init 53 = .ok (.bipush 16, 2) := by decide +kernel
theorem dX0_init_55 : decode cX0_init 55 = .ok (.newarray .int, 2) := by decide +kernel
theorem dX0_init_57 : decode cX0_init 57 = .ok (.putfield 29, 3) := by decide +kernel
theorem dX0_init_60 : decode cX0_init 60 = .ok (.aload_n 0, 1) := by decide +kernel
theorem dX0_init_61 : decode cX0_init 61 = .ok (.bipush 8, 2) := by decide +kernel
theorem dX0_init_63 : decode cX0_init 63 = .ok (.newarray .long, 2) := by decide +kernel
theorem dX0_init_65 : decode cX0_init 65 = .ok (.putfield 32, 3) := by decide +kernel
theorem dX0_init_68 : decode cX0_init 68 = .ok (.aload_n 0, 1) := by decide +kernel
theorem dX0_init_69 : decode cX0_init 69 = .ok (.bipush 8, 2) := by decide +kernel
theorem dX0_init_71 : decode cX0_init 71 = .ok (.newarray .int, 2) := by decide +kernel
theorem dX0_init_73 : decode cX0_init 73 = .ok (.putfield 35, 3) := by decide +kernel
theorem dX0_init_76 : decode cX0_init 76 = .ok (.aload_n 0, 1) := by decide +kernel
theorem dX0_init_77 : decode cX0_init 77 = .ok (.bipush 8, 2) := by decide +kernel
theorem dX0_init_79 : decode cX0_init 79 = .ok (.newarray .boolean, 2) := by decide +kernel
theorem dX0_init_81 : decode cX0_init 81 = .ok (.putfield 38, 3) := by decide +kernel
theorem dX0_init_84 : decode cX0_init 84 = .ok (.aload_n 0, 1) := by decide +kernel
theorem dX0_init_85 : decode cX0_init 85 = .ok (.bipush 8, 2) := by decide +kernel
theorem dX0_init_87 : decode cX0_init 87 = .ok (.newarray .int, 2) := by decide +kernel
theorem dX0_init_89 : decode cX0_init 89 = .ok (.putfield 42, 3) := by decide +kernel
theorem dX0_init_92 : decode cX0_init 92 = .ok (.aload_n 0, 1) := by decide +kernel
theorem dX0_init_93 : decode cX0_init 93 = .ok (.bipush 8, 2) := by decide +kernel
theorem dX0_init_95 : decode cX0_init 95 = .ok (.newarray .int, 2) := by decide +kernel
theorem dX0_init_97 : decode cX0_init 97 = .ok (.putfield 45, 3) := by decide +kernel
theorem dX0_init_100 : decode cX0_init 100 = .ok (.aload_n 0, 1) := by decide +kernel
theorem dX0_init_101 : decode cX0_init 101 = .ok (.iconst 4, 1) := by decide +kernel
theorem dX0_init_102 : decode cX0_init 102 = .ok (.newarray .int, 2) := by decide +kernel
theorem dX0_init_104 : decode cX0_init 104 = .ok (.putfield 48, 3) := by decide +kernel
theorem dX0_init_107 : decode cX0_init 107 = .ok (.aload_n 0, 1) := by decide +kernel
theorem dX0_init_108 : decode cX0_init 108 = .ok (.iconst 2, 1) := by decide +kernel
theorem dX0_init_109 : decode cX0_init 109 = .ok (.invokevirtual 51, 3) := by decide +kernel
theorem dX0_init_112 : decode cX0_init 112 = .ok (.return_, 1) := by decide +kernel
theorem dX0_reset_0 : decode cX0_reset 0 = .ok (.iload_n 1, 1) := by decide +kernel
theorem dX0_reset_1 : decode cX0_reset 1 = .ok (.iconst 1, 1) := by decide +kernel
theorem dX0_reset_2 : decode cX0_reset 2 = .ok (.if_icmp .lt 8, 3) := by decide +kernel
theorem dX0_reset_5 : decode cX0_reset 5 = .ok (.iload_n 1, 1) := by decide +kernel
theorem dX0_reset_6 : decode cX0_reset 6 = .ok (.iconst 4, 1) := by decide +kernel
theorem dX0_reset_7 : decode cX0_reset 7 = .ok (.if_icmp .le 13, 3) := by decide +kernel
theorem dX0_reset_10 : decode cX0_reset 10 = .ok (.new 55, 3) := by decide +kernel
theorem dX0_reset_13 : decode cX0_reset 13 = .ok (.dup, 1) := by decide +kernel
theorem dX0_reset_14 : decode cX0_reset 14 = .ok (.ldc 57, 2) := by decide +kernel
theorem dX0_reset_16 : decode cX0_reset 16 = .ok (.invokespecial 59, 3) := by decide +kernel
theorem dX0_reset_19 : decode cX0_reset 19 = .ok (.athrow, 1) := by decide +kernel
theorem dX0_reset_20 : decode cX0_reset 20 = .ok (.aload_n 0, 1) := by decide +kernel
theorem dX0_reset_21 : decode cX0_reset 21 = .ok (.getfield 62, 3) := by decide +kernel
theorem dX0_reset_24 : decode cX0_reset 24 = .ok (.istore_n 2, 1) := by decide +kernel
theorem dX0_reset_25 : decode cX0_reset 25 = .ok (.aload_n 0, 1) := by decide +kernel
theorem dX0_reset_26 : decode cX0_reset 26 = .ok (.iload_n 1, 1) := by decide +kernel
theorem dX0_reset_27 : decode cX0_reset 27 = .ok (.invokevirtual 51, 3) := by decide +kernel
theorem dX0_reset_30 : decode cX0_reset 30 = .ok (.iload_n 2, 1) := by decide +kernel
theorem dX0_reset_31 : decode cX0_reset 31 = .ok (.ireturn, 1) := by decide +kernel
theorem dX0_setStealing_0 : decode cX0_setStealing 0 = .ok (.aload_n 0, 1) := by decide +kernel
theorem dX0_setStealing_1 : decode cX0_setStealing 1 = .ok (.getfield 66, 3) := by decide +kernel
theorem dX0_setStealing_4 : decode cX0_setStealing 4 = .ok (.istore_n 2, 1) := by decide +kernel
theorem dX0_setStealing_5 : decode cX0_setStealing 5 = .ok (.aload_n 0, 1) := by decide +kernel
theorem dX0_setStealing_6 : decode cX0_setStealing 6 = .ok (.iload_n 1, 1) := by decide +kernel
theorem dX0_setStealing_7 : decode cX0_setStealing 7 = .ok (.putfield 66, 3) := by decide +kernel
theorem dX0_setStealing_10 : decode cX0_setStealing 10 = .ok (.iload_n 2, 1) := by decide +kernel
theorem dX0_setStealing_11 : decode cX0_setStealing 11 = .ok (.ireturn, 1) := by decide +kernel
theorem dX0_tick_0 : decode cX0_tick 0 = .ok (.iload_n 1, 1) := by decide +kernel
theorem dX0_tick_1 : decode cX0_tick 1 = .ok (.iconst 1, 1) := by decide +kernel
theorem dX0_tick_2 : decode cX0_tick 2 = .ok (.if_icmp .lt 9, 3) := by decide +kernel
theorem dX0_tick_5 : decode cX0_tick 5 = .ok (.iload_n 1, 1) := by decide +kernel
theorem dX0_tick_6 : decode cX0_tick 6 = .ok (.bipush 100, 2) := by decide +kernel
theorem dX0_tick_8 : decode cX0_tick 8 = .ok (.if_icmp .le 13, 3) := by decide +kernel
theorem dX0_tick_11 : decode cX0_tick 11 = .ok (.new 55, 3) := by decide +kernel
theorem dX0_tick_14 : decode cX0_tick 14 = .ok (.dup, 1) := by decide +kernel
theorem dX0_tick_15 : decode cX0_tick 15 = .ok (.ldc 70, 2) := by decide +kernel
theorem dX0_tick_17 : decode cX0_tick 17 = .ok (.invokespecial 59, 3) := by decide +kernel
theorem dX0_tick_20 : decode cX0_tick 20 = .ok (.athrow, 1) := by decide +kernel
theorem dX0_tick_21 : decode cX0_tick 21 = .ok (.iconst 0, 1) := by decide +kernel
theorem dX0_tick_22 : decode cX0_tick 22 = .ok (.istore_n 2, 1) := by decide +kernel
theorem dX0_tick_23 : decode cX0_tick 23 = .ok (.iconst 0, 1) := by decide +kernel
theorem dX0_tick_24 : decode cX0_tick 24 = .ok (.istore_n 3, 1) := by decide +kernel
theorem dX0_tick_25 : decode cX0_tick 25 = .ok (.iload_n 3, 1) := by decide +kernel
theorem dX0_tick_26 : decode cX0_tick 26 = .ok (.iload_n 1, 1) := by decide +kernel
theorem dX0_tick_27 : decode cX0_tick 27 = .ok (.if_icmp .ge 16, 3) := by decide +kernel
theorem dX0_tick_30 : decode cX0_tick 30 = .ok (.iload_n 2, 1) := by decide +kernel
theorem dX0_tick_31 : decode cX0_tick 31 = .ok (.aload_n 0, 1) := by decide +kernel
theorem dX0_tick_32 : decode cX0_tick 32 = .ok (.invokevirtual 72, 3) := by decide +kernel
theorem dX0_tick_35 : decode cX0_tick 35 = .ok (.iadd, 1) := by decide +kernel
theorem dX0_tick_36 : decode cX0_tick 36 = .ok (.istore_n 2, 1) := by decide +kernel
theorem dX0_tick_37 : decode cX0_tick 37 = .ok (.iinc 3 1, 3) := by decide +kernel
theorem dX0_tick_40 : decode cX0_tick 40 = .ok (.goto (-15), 3) := by decide +kernel
theorem dX0_tick_43 : decode cX0_tick 43 = .ok (.iload_n 2, 1) := by decide +kernel
theorem dX0_tick_44 : decode cX0_tick 44 = .ok (.ireturn, 1) := by decide +kernel
theorem dX0_createTask_0 : decode cX0_createTask 0 = .ok (.aload_n 0, 1) := by decide +kernel
theorem dX0_createTask_1 : decode cX0_createTask 1 = .ok (.iload_n 1, 1) := by decide +kernel
theorem dX0_createTask_2 : decode cX0_createTask 2 = .ok (.invokevirtual 76, 3) := by decide +kernel
theorem dX0_createTask_5 : decode cX0_createTask 5 = .ok (.iload_n 2, 1) := by decide +kernel
theorem dX0_createTask_6 : decode cX0_createTask 6 = .ok (.invokestatic 79, 3) := by decide +kernel
theorem dX0_createTask_9 : decode cX0_createTask 9 = .ok (.iload_n 3, 1) := by decide +kernel
theorem dX0_createTask_10 : decode cX0_createTask 10 = .ok (.invokestatic 82, 3) := by decide +kernel
theorem dX0_createTask_13 : decode cX0_createTask 13 = .ok (.aload_n 0, 1) := by decide +kernel
theorem dX0_createTask_14 : decode cX0_createTask 14 = .ok (.getfield 85, 3) := by decide +kernel
theorem dX0_createTask_17 : decode cX0_createTask 17 = .ok (.bipush 16, 2) := by decide +kernel
theorem dX0_createTask_19 : decode cX0_createTask 19 = .ok (.if_icmp .lt 13, 3) := by decide +kernel
theorem dX0_createTask_22 : decode cX0_createTask 22 = .ok (.new 88, 3) := by decide +kernel
theorem dX0_createTask_25 : decode cX0_createTask 25 = .ok (.dup, 1) := by decide +kernel
theorem dX0_createTask_26 : decode cX0_createTask 26 = .ok (.ldc 90, 2) := by decide +kernel
theorem dX0_createTask_28 : decode cX0_createTask 28 = .ok (.invokespecial 92, 3) := by decide +kernel
theorem dX0_createTask_31 : decode cX0_createTask 31 = .ok (.athrow, 1) := by decide +kernel
theorem dX0_createTask_32 : decode cX0_createTask 32 = .ok (.aload_n 0, 1) := by decide +kernel
theorem dX0_createTask_33 : decode cX0_createTask 33 = .ok (.getfield 85, 3) := by decide +kernel
theorem dX0_createTask_36 : decode cX0_createTask 36 = .ok (.istore 4, 2) := by decide +kernel
theorem dX0_createTask_38 : decode cX0_createTask 38 = .ok (.aload_n 0, 1) := by decide +kernel
theorem dX0_createTask_39 : decode cX0_createTask 39 = .ok (.dup, 1) := by decide +kernel
theorem dX0_createTask_40 : decode cX0_createTask 40 = .ok (.getfield 85, 3) := by decide +kernel
theorem dX0_createTask_43 : decode cX0_createTask 43 = .ok (.iconst 1, 1) := by decide +kernel
theorem dX0_createTask_44 : decode cX0_createTask 44 = .ok (.iadd, 1) := by decide +kernel
theorem dX0_createTask_45 : decode cX0_createTask 45 = .ok (.putfield 85, 3) := by decide +kernel
theorem dX0_createTask_48 : decode cX0_createTask 48 = .ok (.aload_n 0, 1) := by decide +kernel
theorem dX0_createTask_49 : decode cX0_createTask 49 = .ok (.getfield 9, 3) := by decide +kernel
theorem dX0_createTask_52 : decode cX0_createTask 52 = .ok (.iload 4, 2) := by decide +kernel
theorem dX0_createTask_54 : decode cX0_createTask 54 = .ok (.iload_n 1, 1) := by decide +kernel
theorem dX0_createTask_55 : decode cX0_createTask 55 = .ok (.iastore, 1) := by decide +kernel
theorem dX0_createTask_56 : decode cX0_createTask 56 = .ok (.aload_n 0, 1) := by decide +kernel
theorem dX0_createTask_57 : decode cX0_createTask 57 = .ok (.getfield 13, 3) := by decide +kernel
theorem dX0_createTask_60 : decode cX0_createTask 60 = .ok (.iload 4, 2) := by decide +kernel
theorem dX0_createTask_62 : decode cX0_createTask 62 = .ok (.iload_n 2, 1) := by decide +kernel
theorem dX0_createTask_63 : decode cX0_createTask 63 = .ok (.iastore, 1) := by decide +kernel
theorem dX0_createTask_64 : decode cX0_createTask 64 = .ok (.aload_n 0, 1) := by decide +kernel
theorem dX0_createTask_65 : decode cX0_createTask 65 = .ok (.getfield 16, 3) := by decide +kernel
theorem dX0_createTask_68 : decode cX0_createTask 68 = .ok (.iload 4, 2) := by decide +kernel
theorem dX0_createTask_70 : decode cX0_createTask 70 = .ok (.iload_n 3, 1) := by decide +kernel
theorem dX0_createTask_71 : decode cX0_createTask 71 = .ok (.iastore, 1) := by decide +kernel
theorem dX0_createTask_72 : decode cX0_createTask 72 = .ok (.aload_n 0, 1) := by decide +kernel
theorem dX0_createTask_73 : decode cX0_createTask 73 = .ok (.getfield 22, 3) := by decide +kernel
theorem dX0_createTask_76 : decode cX0_createTask 76 = .ok (.iload 4, 2) := by decide +kernel
theorem dX0_createTask_78 : decode cX0_createTask 78 = .ok (.lconst 0, 1) := by decide +kernel
theorem dX0_createTask_79 : decode cX0_createTask 79 = .ok (.lastore, 1) := by decide +kernel
theorem dX0_createTask_80 : decode cX0_createTask 80 = .ok (.aload_n 0, 1) := by decide +kernel
theorem dX0_createTask_81 : decode cX0_createTask 81 = .ok (.getfield 26, 3) := by decide +kernel
theorem dX0_createTask_84 : decode cX0_createTask 84 = .ok (.iload 4, 2) := by decide +kernel
theorem dX0_createTask_86 : decode cX0_createTask 86 = .ok (.iconst 0, 1) := by decide +kernel
theorem dX0_createTask_87 : decode cX0_createTask 87 = .ok (.iastore, 1) := by decide +kernel
theorem dX0_createTask_88 : decode cX0_createTask 88 = .ok (.aload_n 0, 1) := by decide +kernel
theorem dX0_createTask_89 : decode cX0_createTask 89 = .ok (.getfield 29, 3) := by decide +kernel
theorem dX0_createTask_92 : decode cX0_createTask 92 = .ok (.iload 4, 2) := by decide +kernel
theorem dX0_createTask_94 : decode cX0_createTask 94 = .ok (.iconst 0, 1) := by decide +kernel
theorem dX0_createTask_95 : decode cX0_createTask 95 = .ok (.iastore, 1) := by decide +kernel
theorem dX0_createTask_96 : decode cX0_createTask 96 = .ok (.aload_n 0, 1) := by decide +kernel
theorem dX0_createTask_97 : decode cX0_createTask 97 = .ok (.iload 4, 2) := by decide +kernel
theorem dX0_createTask_99 : decode cX0_createTask 99 = .ok (.invokevirtual 93, 3) := by decide +kernel
theorem dX0_createTask_102 : decode cX0_createTask 102 = .ok (.iload 4, 2) := by decide +kernel
theorem dX0_createTask_104 : decode cX0_createTask 104 = .ok (.ireturn, 1) := by decide +kernel
theorem dX0_sleep_0 : decode cX0_sleep 0 = .ok (.aload_n 0, 1) := by decide +kernel
theorem dX0_sleep_1 : decode cX0_sleep 1 = .ok (.iload_n 1, 1) := by decide +kernel
theorem dX0_sleep_2 : decode cX0_sleep 2 = .ok (.invokevirtual 96, 3) := by decide +kernel
theorem dX0_sleep_5 : decode cX0_sleep 5 = .ok (.aload_n 0, 1) := by decide +kernel
theorem dX0_sleep_6 : decode cX0_sleep 6 = .ok (.iload_n 1, 1) := by decide +kernel
theorem dX0_sleep_7 : decode cX0_sleep 7 = .ok (.invokevirtual 99, 3) := by decide +kernel
theorem dX0_sleep_10 : decode cX0_sleep 10 = .ok (.ifCond .ne 13, 3) := by decide +kernel
theorem dX0_sleep_13 : decode cX0_sleep 13 = .ok (.new 88, 3) := by decide +kernel
theorem dX0_sleep_16 : decode cX0_sleep 16 = .ok (.dup, 1) := by decide +kernel
theorem dX0_sleep_17 : decode cX0_sleep 17 = .ok (.ldc 103, 2) := by decide +kernel
theorem dX0_sleep_19 : decode cX0_sleep 19 = .ok (.invokespecial 92, 3) := by decide +kernel
theorem dX0_sleep_22 : decode cX0_sleep 22 = .ok (.athrow, 1) := by decide +kernel
theorem dX0_sleep_23 : decode cX0_sleep 23 = .ok (.aload_n 0, 1) := by decide +kernel
theorem dX0_sleep_24 : decode cX0_sleep 24 = .ok (.iload_n 1, 1) := by decide +kernel
theorem dX0_sleep_25 : decode cX0_sleep 25 = .ok (.iconst 2, 1) := by decide +kernel
theorem dX0_sleep_26 : decode cX0_sleep 26 = .ok (.invokevirtual 105, 3) := by decide +kernel
theorem dX0_sleep_29 : decode cX0_sleep 29 = .ok (.ireturn, 1) := by decide +kernel
theorem dX0_wake_0 : decode cX0_wake 0 = .ok (.aload_n 0, 1) := by decide +kernel
theorem dX0_wake_1 : decode cX0_wake 1 = .ok (.iload_n 1, 1) := by decide +kernel
theorem dX0_wake_2 : decode cX0_wake 2 = .ok (.invokevirtual 96, 3) := by decide +kernel
theorem dX0_wake_5 : decode cX0_wake 5 = .ok (.aload_n 0, 1) := by decide +kernel
theorem dX0_wake_6 : decode cX0_wake 6 = .ok (.getfield 19, 3) := by decide +kernel
theorem dX0_wake_9 : decode cX0_wake 9 = .ok (.iload_n 1, 1) := by decide +kernel
theorem dX0_wake_10 : decode cX0_wake 10 = .ok (.iaload, 1) := by decide +kernel
theorem dX0_wake_11 : decode cX0_wake 11 = .ok (.iconst 2, 1) := by decide +kernel
theorem dX0_wake_12 : decode cX0_wake 12 = .ok (.if_icmp .eq 13, 3) := by decide +kernel
theorem dX0_wake_15 : decode cX0_wake 15 = .ok (.new 88, 3) := by decide +kernel
theorem dX0_wake_18 : decode cX0_wake 18 = .ok (.dup, 1) := by decide +kernel
theorem dX0_wake_19 : decode cX0_wake 19 = .ok (.ldc 109, 2) := by decide +kernel
theorem dX0_wake_21 : decode cX0_wake 21 = .ok (.invokespecial 92, 3) := by decide +kernel
theorem dX0_wake_24 : decode cX0_wake 24 = .ok (.athrow, 1) := by decide +kernel
theorem dX0_wake_25 : decode cX0_wake 25 = .ok (.aload_n 0, 1) := by decide +kernel
theorem dX0_wake_26 : decode cX0_wake 26 = .ok (.iload_n 1, 1) := by decide +kernel
theorem dX0_wake_27 : decode cX0_wake 27 = .ok (.invokevirtual 93, 3) := by decide +kernel
theorem dX0_wake_30 : decode cX0_wake 30 = .ok (.aload_n 0, 1) := by decide +kernel
theorem dX0_wake_31 : decode cX0_wake 31 = .ok (.getfield 22, 3) := by decide +kernel
theorem dX0_wake_34 : decode cX0_wake 34 = .ok (.iload_n 1, 1) := by decide +kernel
theorem dX0_wake_35 : decode cX0_wake 35 = .ok (.laload, 1) := by decide +kernel
theorem dX0_wake_36 : decode cX0_wake 36 = .ok (.lreturn, 1) := by decide +kernel
theorem dX0_exit_0 : decode cX0_exit 0 = .ok (.aload_n 0, 1) := by decide +kernel
theorem dX0_exit_1 : decode cX0_exit 1 = .ok (.iload_n 1, 1) := by decide +kernel
theorem dX0_exit_2 : decode cX0_exit 2 = .ok (.invokevirtual 96, 3) := by decide +kernel
theorem dX0_exit_5 : decode cX0_exit 5 = .ok (.aload_n 0, 1) := by decide +kernel
theorem dX0_exit_6 : decode cX0_exit 6 = .ok (.iload_n 1, 1) := by decide +kernel
theorem dX0_exit_7 : decode cX0_exit 7 = .ok (.invokevirtual 111, 3) := by decide +kernel
theorem dX0_exit_10 : decode cX0_exit 10 = .ok (.aload_n 0, 1) := by decide +kernel
theorem dX0_exit_11 : decode cX0_exit 11 = .ok (.iload_n 1, 1) := by decide +kernel
theorem dX0_exit_12 : decode cX0_exit 12 = .ok (.iconst 3, 1) := by decide +kernel
theorem dX0_exit_13 : decode cX0_exit 13 = .ok (.invokevirtual 105, 3) := by decide +kernel
theorem dX0_exit_16 : decode cX0_exit 16 = .ok (.ireturn, 1) := by decide +kernel
theorem dX0_setWeight_0 : decode cX0_setWeight 0 = .ok (.aload_n 0, 1) := by decide +kernel
theorem dX0_setWeight_1 : decode cX0_setWeight 1 = .ok (.iload_n 1, 1) := by decide +kernel
theorem dX0_setWeight_2 : decode cX0_setWeight 2 = .ok (.invokevirtual 96, 3) := by decide +kernel
theorem dX0_setWeight_5 : decode cX0_setWeight 5 = .ok (.iload_n 2, 1) := by decide +kernel
theorem dX0_setWeight_6 : decode cX0_setWeight 6 = .ok (.invokestatic 79, 3) := by decide +kernel
theorem dX0_setWeight_9 : decode cX0_setWeight 9 = .ok (.aload_n 0, 1) := by decide +kernel
theorem dX0_setWeight_10 : decode cX0_setWeight 10 = .ok (.iload_n 1, 1) := by decide +kernel
theorem dX0_setWeight_11 : decode cX0_setWeight 11 = .ok (.invokevirtual 111, 3) := by decide +kernel
theorem dX0_setWeight_14 : decode cX0_setWeight 14 = .ok (.aload_n 0, 1) := by decide +kernel
theorem dX0_setWeight_15 : decode cX0_setWeight 15 = .ok (.getfield 13, 3) := by decide +kernel
theorem dX0_setWeight_18 : decode cX0_setWeight 18 = .ok (.iload_n 1, 1) := by decide +kernel
theorem dX0_setWeight_19 : decode cX0_setWeight 19 = .ok (.iaload, 1) := by decide +kernel
theorem dX0_setWeight_20 : decode cX0_setWeight 20 = .ok (.istore_n 3, 1) := by decide +kernel
theorem dX0_setWeight_21 : decode cX0_setWeight 21 = .ok (.aload_n 0, 1) := by decide +kernel
theorem dX0_setWeight_22 : decode cX0_setWeight 22 = .ok (.getfield 13, 3) := by decide +kernel
theorem dX0_setWeight_25 : decode cX0_setWeight 25 = .ok (.iload_n 1, 1) := by decide +kernel
theorem dX0_setWeight_26 : decode cX0_setWeight 26 = .ok (.iload_n 2, 1) := by decide +kernel
theorem dX0_setWeight_27 : decode cX0_setWeight 27 = .ok (.iastore, 1) := by decide +kernel
theorem dX0_setWeight_28 : decode cX0_setWeight 28 = .ok (.iload_n 3, 1) := by decide +kernel
theorem dX0_setWeight_29 : decode cX0_setWeight 29 = .ok (.ireturn, 1) := by decide +kernel
theorem dX0_setCookie_0 : decode cX0_setCookie 0 = .ok (.aload_n 0, 1) := by decide +kernel
theorem dX0_setCookie_1 : decode cX0_setCookie 1 = .ok (.iload_n 1, 1) := by decide +kernel
theorem dX0_setCookie_2 : decode cX0_setCookie 2 = .ok (.invokevirtual 96, 3) := by decide +kernel
theorem dX0_setCookie_5 : decode cX0_setCookie 5 = .ok (.iload_n 2, 1) := by decide +kernel
theorem dX0_setCookie_6 : decode cX0_setCookie 6 = .ok (.invokestatic 82, 3) := by decide +kernel
theorem dX0_setCookie_9 : decode cX0_setCookie 9 = .ok (.aload_n 0, 1) := by decide +kernel
theorem dX0_setCookie_10 : decode cX0_setCookie 10 = .ok (.iload_n 1, 1) := by decide +kernel
theorem dX0_setCookie_11 : decode cX0_setCookie 11 = .ok (.invokevirtual 111, 3) := by decide +kernel
theorem dX0_setCookie_14 : decode cX0_setCookie 14 = .ok (.aload_n 0, 1) := by decide +kernel
theorem dX0_setCookie_15 : decode cX0_setCookie 15 = .ok (.getfield 16, 3) := by decide +kernel
theorem dX0_setCookie_18 : decode cX0_setCookie 18 = .ok (.iload_n 1, 1) := by decide +kernel
theorem dX0_setCookie_19 : decode cX0_setCookie 19 = .ok (.iaload, 1) := by decide +kernel
theorem dX0_setCookie_20 : decode cX0_setCookie 20 = .ok (.istore_n 3, 1) := by decide +kernel
theorem dX0_setCookie_21 : decode cX0_setCookie 21 = .ok (.aload_n 0, 1) := by decide +kernel
theorem dX0_setCookie_22 : decode cX0_setCookie 22 = .ok (.getfield 16, 3) := by decide +kernel
theorem dX0_setCookie_25 : decode cX0_setCookie 25 = .ok (.iload_n 1, 1) := by decide +kernel
theorem dX0_setCookie_26 : decode cX0_setCookie 26 = .ok (.iload_n 2, 1) := by decide +kernel
theorem dX0_setCookie_27 : decode cX0_setCookie 27 = .ok (.iastore, 1) := by decide +kernel
theorem dX0_setCookie_28 : decode cX0_setCookie 28 = .ok (.iload_n 3, 1) := by decide +kernel
theorem dX0_setCookie_29 : decode cX0_setCookie 29 = .ok (.ireturn, 1) := by decide +kernel
theorem dX0_moveTask_0 : decode cX0_moveTask 0 = .ok (.aload_n 0, 1) := by decide +kernel
theorem dX0_moveTask_1 : decode cX0_moveTask 1 = .ok (.iload_n 1, 1) := by decide +kernel
theorem dX0_moveTask_2 : decode cX0_moveTask 2 = .ok (.invokevirtual 96, 3) := by decide +kernel
theorem dX0_moveTask_5 : decode cX0_moveTask 5 = .ok (.aload_n 0, 1) := by decide +kernel
theorem dX0_moveTask_6 : decode cX0_moveTask 6 = .ok (.iload_n 2, 1) := by decide +kernel
theorem dX0_moveTask_7 : decode cX0_moveTask 7 = .ok (.invokevirtual 76, 3) := by decide +kernel
theorem dX0_moveTask_10 : decode cX0_moveTask 10 = .ok (.aload_n 0, 1) := by decide +kernel
theorem dX0_moveTask_11 : decode cX0_moveTask 11 = .ok (.iload_n 1, 1) := by decide +kernel
theorem dX0_moveTask_12 : decode cX0_moveTask 12 = .ok (.invokevirtual 111, 3) := by decide +kernel
theorem dX0_moveTask_15 : decode cX0_moveTask 15 = .ok (.aload_n 0, 1) := by decide +kernel
theorem dX0_moveTask_16 : decode cX0_moveTask 16 = .ok (.getfield 19, 3) := by decide +kernel
theorem dX0_moveTask_19 : decode cX0_moveTask 19 = .ok (.iload_n 1, 1) := by decide +kernel
theorem dX0_moveTask_20 : decode cX0_moveTask 20 = .ok (.iaload, 1) := by decide +kernel
theorem dX0_moveTask_21 : decode cX0_moveTask 21 = .ok (.iconst 1, 1) := by decide +kernel
theorem dX0_moveTask_22 : decode cX0_moveTask 22 = .ok (.if_icmp .ne 13, 3) := by decide +kernel
theorem dX0_moveTask_25 : decode cX0_moveTask 25 = .ok (.new 88, 3) := by decide +kernel
theorem dX0_moveTask_28 : decode cX0_moveTask 28 = .ok (.dup, 1) := by decide +kernel
theorem dX0_moveTask_29 : decode cX0_moveTask 29 = .ok (.ldc 114, 2) := by decide +kernel
theorem dX0_moveTask_31 : decode cX0_moveTask 31 = .ok (.invokespecial 92, 3) := by decide +kernel
theorem dX0_moveTask_34 : decode cX0_moveTask 34 = .ok (.athrow, 1) := by decide +kernel
theorem dX0_moveTask_35 : decode cX0_moveTask 35 = .ok (.aload_n 0, 1) := by decide +kernel
theorem dX0_moveTask_36 : decode cX0_moveTask 36 = .ok (.getfield 9, 3) := by decide +kernel
theorem dX0_moveTask_39 : decode cX0_moveTask 39 = .ok (.iload_n 1, 1) := by decide +kernel
theorem dX0_moveTask_40 : decode cX0_moveTask 40 = .ok (.iaload, 1) := by decide +kernel
theorem dX0_moveTask_41 : decode cX0_moveTask 41 = .ok (.istore_n 3, 1) := by decide +kernel
theorem dX0_moveTask_42 : decode cX0_moveTask 42 = .ok (.aload_n 0, 1) := by decide +kernel
theorem dX0_moveTask_43 : decode cX0_moveTask 43 = .ok (.getfield 19, 3) := by decide +kernel
theorem dX0_moveTask_46 : decode cX0_moveTask 46 = .ok (.iload_n 1, 1) := by decide +kernel
theorem dX0_moveTask_47 : decode cX0_moveTask 47 = .ok (.iaload, 1) := by decide +kernel
theorem dX0_moveTask_48 : decode cX0_moveTask 48 = .ok (.ifCond .ne 12, 3) := by decide +kernel
theorem dX0_moveTask_51 : decode cX0_moveTask 51 = .ok (.aload_n 0, 1) := by decide +kernel
theorem dX0_moveTask_52 : decode cX0_moveTask 52 = .ok (.iload_n 1, 1) := by decide +kernel
theorem dX0_moveTask_53 : decode cX0_moveTask 53 = .ok (.iload_n 2, 1) := by decide +kernel
theorem dX0_moveTask_54 : decode cX0_moveTask 54 = .ok (.invokevirtual 116, 3) := by decide +kernel
theorem dX0_moveTask_57 : decode cX0_moveTask 57 = .ok (.goto 10, 3) := by decide +kernel
theorem dX0_moveTask_60 : decode cX0_moveTask 60 = .ok (.aload_n 0, 1) := by decide +kernel
theorem dX0_moveTask_61 : decode cX0_moveTask 61 = .ok (.getfield 9, 3) := by decide +kernel
theorem dX0_moveTask_64 : decode cX0_moveTask 64 = .ok (.iload_n 1, 1) := by decide +kernel
theorem dX0_moveTask_65 : decode cX0_moveTask 65 = .ok (.iload_n 2, 1) := by decide +kernel
theorem dX0_moveTask_66 : decode cX0_moveTask 66 = .ok (.iastore, 1) := by decide +kernel
theorem dX0_moveTask_67 : decode cX0_moveTask 67 = .ok (.iload_n 3, 1) := by decide +kernel
theorem dX0_moveTask_68 : decode cX0_moveTask 68 = .ok (.ireturn, 1) := by decide +kernel
theorem dX0_taskCount_0 : decode cX0_taskCount 0 = .ok (.aload_n 0, 1) := by decide +kernel
theorem dX0_taskCount_1 : decode cX0_taskCount 1 = .ok (.getfield 85, 3) := by decide +kernel
theorem dX0_taskCount_4 : decode cX0_taskCount 4 = .ok (.ireturn, 1) := by decide +kernel
theorem dX0_stateOf_0 : decode cX0_stateOf 0 = .ok (.aload_n 0, 1) := by decide +kernel
theorem dX0_stateOf_1 : decode cX0_stateOf 1 = .ok (.iload_n 1, 1) := by decide +kernel
theorem dX0_stateOf_2 : decode cX0_stateOf 2 = .ok (.invokevirtual 96, 3) := by decide +kernel
theorem dX0_stateOf_5 : decode cX0_stateOf 5 = .ok (.aload_n 0, 1) := by decide +kernel
theorem dX0_stateOf_6 : decode cX0_stateOf 6 = .ok (.getfield 19, 3) := by decide +kernel
theorem dX0_stateOf_9 : decode cX0_stateOf 9 = .ok (.iload_n 1, 1) := by decide +kernel
theorem dX0_stateOf_10 : decode cX0_stateOf 10 = .ok (.iaload, 1) := by decide +kernel
theorem dX0_stateOf_11 : decode cX0_stateOf 11 = .ok (.ireturn, 1) := by decide +kernel
theorem dX0_cpuOf_0 : decode cX0_cpuOf 0 = .ok (.aload_n 0, 1) := by decide +kernel
theorem dX0_cpuOf_1 : decode cX0_cpuOf 1 = .ok (.iload_n 1, 1) := by decide +kernel
theorem dX0_cpuOf_2 : decode cX0_cpuOf 2 = .ok (.invokevirtual 96, 3) := by decide +kernel
theorem dX0_cpuOf_5 : decode cX0_cpuOf 5 = .ok (.aload_n 0, 1) := by decide +kernel
theorem dX0_cpuOf_6 : decode cX0_cpuOf 6 = .ok (.getfield 9, 3) := by decide +kernel
theorem dX0_cpuOf_9 : decode cX0_cpuOf 9 = .ok (.iload_n 1, 1) := by decide +kernel
theorem dX0_cpuOf_10 : decode cX0_cpuOf 10 = .ok (.iaload, 1) := by decide +kernel
theorem dX0_cpuOf_11 : decode cX0_cpuOf 11 = .ok (.ireturn, 1) := by decide +kernel
theorem dX0_virtualTime_0 : decode cX0_virtualTime 0 = .ok (.aload_n 0, 1) := by decide +kernel
theorem dX0_virtualTime_1 : decode cX0_virtualTime 1 = .ok (.iload_n 1, 1) := by decide +kernel
theorem dX0_virtualTime_2 : decode cX0_virtualTime 2 = .ok (.invokevirtual 96, 3) := by decide +kernel
theorem dX0_virtualTime_5 : decode cX0_virtualTime 5 = .ok (.aload_n 0, 1) := by decide +kernel
theorem dX0_virtualTime_6 : decode cX0_virtualTime 6 = .ok (.getfield 22, 3) := by decide +kernel
theorem dX0_virtualTime_9 : decode cX0_virtualTime 9 = .ok (.iload_n 1, 1) := by decide +kernel
theorem dX0_virtualTime_10 : decode cX0_virtualTime 10 = .ok (.laload, 1) := by decide +kernel
theorem dX0_virtualTime_11 : decode cX0_virtualTime 11 = .ok (.lreturn, 1) := by decide +kernel
theorem dX0_runTicks_0 : decode cX0_runTicks 0 = .ok (.aload_n 0, 1) := by decide +kernel
theorem dX0_runTicks_1 : decode cX0_runTicks 1 = .ok (.iload_n 1, 1) := by decide +kernel
theorem dX0_runTicks_2 : decode cX0_runTicks 2 = .ok (.invokevirtual 96, 3) := by decide +kernel
theorem dX0_runTicks_5 : decode cX0_runTicks 5 = .ok (.aload_n 0, 1) := by decide +kernel
theorem dX0_runTicks_6 : decode cX0_runTicks 6 = .ok (.getfield 26, 3) := by decide +kernel
theorem dX0_runTicks_9 : decode cX0_runTicks 9 = .ok (.iload_n 1, 1) := by decide +kernel
theorem dX0_runTicks_10 : decode cX0_runTicks 10 = .ok (.iaload, 1) := by decide +kernel
theorem dX0_runTicks_11 : decode cX0_runTicks 11 = .ok (.ireturn, 1) := by decide +kernel
theorem dX0_waitTicks_0 : decode cX0_waitTicks 0 = .ok (.aload_n 0, 1) := by decide +kernel
theorem dX0_waitTicks_1 : decode cX0_waitTicks 1 = .ok (.iload_n 1, 1) := by decide +kernel
theorem dX0_waitTicks_2 : decode cX0_waitTicks 2 = .ok (.invokevirtual 96, 3) := by decide +kernel
theorem dX0_waitTicks_5 : decode cX0_waitTicks 5 = .ok (.aload_n 0, 1) := by decide +kernel
theorem dX0_waitTicks_6 : decode cX0_waitTicks 6 = .ok (.getfield 29, 3) := by decide +kernel
theorem dX0_waitTicks_9 : decode cX0_waitTicks 9 = .ok (.iload_n 1, 1) := by decide +kernel
theorem dX0_waitTicks_10 : decode cX0_waitTicks 10 = .ok (.iaload, 1) := by decide +kernel
theorem dX0_waitTicks_11 : decode cX0_waitTicks 11 = .ok (.ireturn, 1) := by decide +kernel
theorem dX0_share_0 : decode cX0_share 0 = .ok (.aload_n 0, 1) := by decide +kernel
theorem dX0_share_1 : decode cX0_share 1 = .ok (.iload_n 1, 1) := by decide +kernel
theorem dX0_share_2 : decode cX0_share 2 = .ok (.invokevirtual 96, 3) := by decide +kernel
theorem dX0_share_5 : decode cX0_share 5 = .ok (.aload_n 0, 1) := by decide +kernel
theorem dX0_share_6 : decode cX0_share 6 = .ok (.getfield 26, 3) := by decide +kernel
theorem dX0_share_9 : decode cX0_share 9 = .ok (.iload_n 1, 1) := by decide +kernel
theorem dX0_share_10 : decode cX0_share 10 = .ok (.iaload, 1) := by decide +kernel
theorem dX0_share_11 : decode cX0_share 11 = .ok (.i2d, 1) := by decide +kernel
theorem dX0_share_12 : decode cX0_share 12 = .ok (.dstore_n 2, 1) := by decide +kernel
theorem dX0_share_13 : decode cX0_share 13 = .ok (.dload_n 2, 1) := by decide +kernel
theorem dX0_share_14 : decode cX0_share 14 = .ok (.aload_n 0, 1) := by decide +kernel
theorem dX0_share_15 : decode cX0_share 15 = .ok (.getfield 29, 3) := by decide +kernel
theorem dX0_share_18 : decode cX0_share 18 = .ok (.iload_n 1, 1) := by decide +kernel
theorem dX0_share_19 : decode cX0_share 19 = .ok (.iaload, 1) := by decide +kernel
theorem dX0_share_20 : decode cX0_share 20 = .ok (.i2d, 1) := by decide +kernel
theorem dX0_share_21 : decode cX0_share 21 = .ok (.dadd, 1) := by decide +kernel
theorem dX0_share_22 : decode cX0_share 22 = .ok (.dstore 4, 2) := by decide +kernel
theorem dX0_share_24 : decode cX0_share 24 = .ok (.dload 4, 2) := by decide +kernel
theorem dX0_share_26 : decode cX0_share 26 = .ok (.dconst 0, 1) := by decide +kernel
theorem dX0_share_27 : decode cX0_share 27 = .ok (.dcmp .l, 1) := by decide +kernel
theorem dX0_share_28 : decode cX0_share 28 = .ok (.ifCond .le 10, 3) := by decide +kernel
theorem dX0_share_31 : decode cX0_share 31 = .ok (.dload_n 2, 1) := by decide +kernel
theorem dX0_share_32 : decode cX0_share 32 = .ok (.dload 4, 2) := by decide +kernel
theorem dX0_share_34 : decode cX0_share 34 = .ok (.ddiv, 1) := by decide +kernel
theorem dX0_share_35 : decode cX0_share 35 = .ok (.goto 4, 3) := by decide +kernel
theorem dX0_share_38 : decode cX0_share 38 = .ok (.dconst 0, 1) := by decide +kernel
theorem dX0_share_39 : decode cX0_share 39 = .ok (.dreturn, 1) := by decide +kernel
theorem dX0_runningTask_0 : decode cX0_runningTask 0 = .ok (.aload_n 0, 1) := by decide +kernel
theorem dX0_runningTask_1 : decode cX0_runningTask 1 = .ok (.iload_n 1, 1) := by decide +kernel
theorem dX0_runningTask_2 : decode cX0_runningTask 2 = .ok (.invokevirtual 76, 3) := by decide +kernel
theorem dX0_runningTask_5 : decode cX0_runningTask 5 = .ok (.aload_n 0, 1) := by decide +kernel
theorem dX0_runningTask_6 : decode cX0_runningTask 6 = .ok (.getfield 35, 3) := by decide +kernel
theorem dX0_runningTask_9 : decode cX0_runningTask 9 = .ok (.iload_n 1, 1) := by decide +kernel
theorem dX0_runningTask_10 : decode cX0_runningTask 10 = .ok (.iaload, 1) := by decide +kernel
theorem dX0_runningTask_11 : decode cX0_runningTask 11 = .ok (.ireturn, 1) := by decide +kernel
theorem dX0_coreCookie_0 : decode cX0_coreCookie 0 = .ok (.aload_n 0, 1) := by decide +kernel
theorem dX0_coreCookie_1 : decode cX0_coreCookie 1 = .ok (.iload_n 1, 1) := by decide +kernel
theorem dX0_coreCookie_2 : decode cX0_coreCookie 2 = .ok (.invokevirtual 120, 3) := by decide +kernel
theorem dX0_coreCookie_5 : decode cX0_coreCookie 5 = .ok (.aload_n 0, 1) := by decide +kernel
theorem dX0_coreCookie_6 : decode cX0_coreCookie 6 = .ok (.getfield 48, 3) := by decide +kernel
theorem dX0_coreCookie_9 : decode cX0_coreCookie 9 = .ok (.iload_n 1, 1) := by decide +kernel
theorem dX0_coreCookie_10 : decode cX0_coreCookie 10 = .ok (.iaload, 1) := by decide +kernel
theorem dX0_coreCookie_11 : decode cX0_coreCookie 11 = .ok (.ireturn, 1) := by decide +kernel
theorem dX0_leaderOf_0 : decode cX0_leaderOf 0 = .ok (.aload_n 0, 1) := by decide +kernel
theorem dX0_leaderOf_1 : decode cX0_leaderOf 1 = .ok (.iload_n 1, 1) := by decide +kernel
theorem dX0_leaderOf_2 : decode cX0_leaderOf 2 = .ok (.invokevirtual 120, 3) := by decide +kernel
theorem dX0_leaderOf_5 : decode cX0_leaderOf 5 = .ok (.aload_n 0, 1) := by decide +kernel
theorem dX0_leaderOf_6 : decode cX0_leaderOf 6 = .ok (.iload_n 1, 1) := by decide +kernel
theorem dX0_leaderOf_7 : decode cX0_leaderOf 7 = .ok (.invokevirtual 123, 3) := by decide +kernel
theorem dX0_leaderOf_10 : decode cX0_leaderOf 10 = .ok (.ireturn, 1) := by decide +kernel
theorem dX0_queueLength_0 : decode cX0_queueLength 0 = .ok (.aload_n 0, 1) := by decide +kernel
theorem dX0_queueLength_1 : decode cX0_queueLength 1 = .ok (.iload_n 1, 1) := by decide +kernel
theorem dX0_queueLength_2 : decode cX0_queueLength 2 = .ok (.invokevirtual 76, 3) := by decide +kernel
theorem dX0_queueLength_5 : decode cX0_queueLength 5 = .ok (.aload_n 0, 1) := by decide +kernel
theorem dX0_queueLength_6 : decode cX0_queueLength 6 = .ok (.iload_n 1, 1) := by decide +kernel
theorem dX0_queueLength_7 : decode cX0_queueLength 7 = .ok (.invokevirtual 127, 3) := by decide +kernel
theorem dX0_queueLength_10 : decode cX0_queueLength 10 = .ok (.ireturn, 1) := by decide +kernel
theorem dX0_queuedTask_0 : decode cX0_queuedTask 0 = .ok (.aload_n 0, 1) := by decide +kernel
theorem dX0_queuedTask_1 : decode cX0_queuedTask 1 = .ok (.iload_n 1, 1) := by decide +kernel
theorem dX0_queuedTask_2 : decode cX0_queuedTask 2 = .ok (.invokevirtual 76, 3) := by decide +kernel
theorem dX0_queuedTask_5 : decode cX0_queuedTask 5 = .ok (.iconst 0, 1) := by decide +kernel
theorem dX0_queuedTask_6 : decode cX0_queuedTask 6 = .ok (.istore_n 3, 1) := by decide +kernel
theorem dX0_queuedTask_7 : decode cX0_queuedTask 7 = .ok (.iload_n 3, 1) := by decide +kernel
theorem dX0_queuedTask_8 : decode cX0_queuedTask 8 = .ok (.aload_n 0, 1) := by decide +kernel
theorem dX0_queuedTask_9 : decode cX0_queuedTask 9 = .ok (.getfield 85, 3) := by decide +kernel
theorem dX0_queuedTask_12 : decode cX0_queuedTask 12 = .ok (.if_icmp .ge 29, 3) := by decide +kernel
theorem dX0_queuedTask_15 : decode cX0_queuedTask 15 = .ok (.aload_n 0, 1) := by decide +kernel
theorem dX0_queuedTask_16 : decode cX0_queuedTask 16 = .ok (.iload_n 3, 1) := by decide +kernel
theorem dX0_queuedTask_17 : decode cX0_queuedTask 17 = .ok (.iload_n 1, 1) := by decide +kernel
theorem dX0_queuedTask_18 : decode cX0_queuedTask 18 = .ok (.invokevirtual 130, 3) := by decide +kernel
theorem dX0_queuedTask_21 : decode cX0_queuedTask 21 = .ok (.ifCond .eq 14, 3) := by decide +kernel
theorem dX0_queuedTask_24 : decode cX0_queuedTask 24 = .ok (.aload_n 0, 1) := by decide +kernel
theorem dX0_queuedTask_25 : decode cX0_queuedTask 25 = .ok (.iload_n 3, 1) := by decide +kernel
theorem dX0_queuedTask_26 : decode cX0_queuedTask 26 = .ok (.invokevirtual 134, 3) := by decide +kernel
theorem dX0_queuedTask_29 : decode cX0_queuedTask 29 = .ok (.iload_n 2, 1) := by decide +kernel
theorem dX0_queuedTask_30 : decode cX0_queuedTask 30 = .ok (.if_icmp .ne 5, 3) := by decide +kernel
theorem dX0_queuedTask_33 : decode cX0_queuedTask 33 = .ok (.iload_n 3, 1) := by decide +kernel
theorem dX0_queuedTask_34 : decode cX0_queuedTask 34 = .ok (.ireturn, 1) := by decide +kernel
theorem dX0_queuedTask_35 : decode cX0_queuedTask 35 = .ok (.iinc 3 1, 3) := by decide +kernel
theorem dX0_queuedTask_38 : decode cX0_queuedTask 38 = .ok (.goto (-31), 3) := by decide +kernel
theorem dX0_queuedTask_41 : decode cX0_queuedTask 41 = .ok (.new 137, 3) := by decide +kernel
theorem dX0_queuedTask_44 : decode cX0_queuedTask 44 = .ok (.dup, 1) := by decide +kernel
theorem dX0_queuedTask_45 : decode cX0_queuedTask 45 = .ok (.ldc 139, 2) := by decide +kernel
theorem dX0_queuedTask_47 : decode cX0_queuedTask 47 = .ok (.invokespecial 141, 3) := by decide +kernel
theorem dX0_queuedTask_50 : decode cX0_queuedTask 50 = .ok (.athrow, 1) := by decide +kernel
theorem dX0_baseOf_0 : decode cX0_baseOf 0 = .ok (.aload_n 0, 1) := by decide +kernel
theorem dX0_baseOf_1 : decode cX0_baseOf 1 = .ok (.iload_n 1, 1) := by decide +kernel
theorem dX0_baseOf_2 : decode cX0_baseOf 2 = .ok (.invokevirtual 76, 3) := by decide +kernel
theorem dX0_baseOf_5 : decode cX0_baseOf 5 = .ok (.aload_n 0, 1) := by decide +kernel
theorem dX0_baseOf_6 : decode cX0_baseOf 6 = .ok (.getfield 32, 3) := by decide +kernel
theorem dX0_baseOf_9 : decode cX0_baseOf 9 = .ok (.iload_n 1, 1) := by decide +kernel
theorem dX0_baseOf_10 : decode cX0_baseOf 10 = .ok (.laload, 1) := by decide +kernel
theorem dX0_baseOf_11 : decode cX0_baseOf 11 = .ok (.lreturn, 1) := by decide +kernel
theorem dX0_idleTicks_0 : decode cX0_idleTicks 0 = .ok (.aload_n 0, 1) := by decide +kernel
theorem dX0_idleTicks_1 : decode cX0_idleTicks 1 = .ok (.iload_n 1, 1) := by decide +kernel
theorem dX0_idleTicks_2 : decode cX0_idleTicks 2 = .ok (.invokevirtual 76, 3) := by decide +kernel
theorem dX0_idleTicks_5 : decode cX0_idleTicks 5 = .ok (.aload_n 0, 1) := by decide +kernel
theorem dX0_idleTicks_6 : decode cX0_idleTicks 6 = .ok (.getfield 42, 3) := by decide +kernel
theorem dX0_idleTicks_9 : decode cX0_idleTicks 9 = .ok (.iload_n 1, 1) := by decide +kernel
theorem dX0_idleTicks_10 : decode cX0_idleTicks 10 = .ok (.iaload, 1) := by decide +kernel
theorem dX0_idleTicks_11 : decode cX0_idleTicks 11 = .ok (.ireturn, 1) := by decide +kernel
theorem dX0_forcedIdleTicks_0 : decode cX0_forcedIdleTicks 0 = .ok (.aload_n 0, 1) := by decide +kernel
theorem dX0_forcedIdleTicks_1 : decode cX0_forcedIdleTicks 1 = .ok (.iload_n 1, 1) := by decide +kernel
theorem dX0_forcedIdleTicks_2 : decode cX0_forcedIdleTicks 2 = .ok (.invokevirtual 76, 3) := by decide +kernel
theorem dX0_forcedIdleTicks_5 : decode cX0_forcedIdleTicks 5 = .ok (.aload_n 0, 1) := by decide +kernel
theorem dX0_forcedIdleTicks_6 : decode cX0_forcedIdleTicks 6 = .ok (.getfield 45, 3) := by decide +kernel
theorem dX0_forcedIdleTicks_9 : decode cX0_forcedIdleTicks 9 = .ok (.iload_n 1, 1) := by decide +kernel
theorem dX0_forcedIdleTicks_10 : decode cX0_forcedIdleTicks 10 = .ok (.iaload, 1) := by decide +kernel
theorem dX0_forcedIdleTicks_11 : decode cX0_forcedIdleTicks 11 = .ok (.ireturn, 1) := by decide +kernel
theorem dX0_stolenTasks_0 : decode cX0_stolenTasks 0 = .ok (.aload_n 0, 1) := by decide +kernel
theorem dX0_stolenTasks_1 : decode cX0_stolenTasks 1 = .ok (.getfield 142, 3) := by decide +kernel
theorem dX0_stolenTasks_4 : decode cX0_stolenTasks 4 = .ok (.ireturn, 1) := by decide +kernel
theorem dX0_checkTask_0 : decode cX0_checkTask 0 = .ok (.iload_n 1, 1) := by decide +kernel
theorem dX0_checkTask_1 : decode cX0_checkTask 1 = .ok (.ifCond .lt 11, 3) := by decide +kernel
theorem dX0_checkTask_4 : decode cX0_checkTask 4 = .ok (.iload_n 1, 1) := by decide +kernel
theorem dX0_checkTask_5 : decode cX0_checkTask 5 = .ok (.aload_n 0, 1) := by decide +kernel
theorem dX0_checkTask_6 : decode cX0_checkTask 6 = .ok (.getfield 85, 3) := by decide +kernel
theorem dX0_checkTask_9 : decode cX0_checkTask 9 = .ok (.if_icmp .lt 13, 3) := by decide +kernel
theorem dX0_checkTask_12 : decode cX0_checkTask 12 = .ok (.new 55, 3) := by decide +kernel
theorem dX0_checkTask_15 : decode cX0_checkTask 15 = .ok (.dup, 1) := by decide +kernel
theorem dX0_checkTask_16 : decode cX0_checkTask 16 = .ok (.ldc 145, 2) := by decide +kernel
theorem dX0_checkTask_18 : decode cX0_checkTask 18 = .ok (.invokespecial 59, 3) := by decide +kernel
theorem dX0_checkTask_21 : decode cX0_checkTask 21 = .ok (.athrow, 1) := by decide +kernel
theorem dX0_checkTask_22 : decode cX0_checkTask 22 = .ok (.return_, 1) := by decide +kernel
theorem dX0_checkCpu_0 : decode cX0_checkCpu 0 = .ok (.iload_n 1, 1) := by decide +kernel
theorem dX0_checkCpu_1 : decode cX0_checkCpu 1 = .ok (.ifCond .lt 11, 3) := by decide +kernel
theorem dX0_checkCpu_4 : decode cX0_checkCpu 4 = .ok (.iload_n 1, 1) := by decide +kernel
theorem dX0_checkCpu_5 : decode cX0_checkCpu 5 = .ok (.aload_n 0, 1) := by decide +kernel
theorem dX0_checkCpu_6 : decode cX0_checkCpu 6 = .ok (.invokevirtual 147, 3) := by decide +kernel
theorem dX0_checkCpu_9 : decode cX0_checkCpu 9 = .ok (.if_icmp .lt 13, 3) := by decide +kernel
theorem dX0_checkCpu_12 : decode cX0_checkCpu 12 = .ok (.new 55, 3) := by decide +kernel
theorem dX0_checkCpu_15 : decode cX0_checkCpu 15 = .ok (.dup, 1) := by decide +kernel
theorem dX0_checkCpu_16 : decode cX0_checkCpu 16 = .ok (.ldc 150, 2) := by decide +kernel
theorem dX0_checkCpu_18 : decode cX0_checkCpu 18 = .ok (.invokespecial 59, 3) := by decide +kernel
theorem dX0_checkCpu_21 : decode cX0_checkCpu 21 = .ok (.athrow, 1) := by decide +kernel
theorem dX0_checkCpu_22 : decode cX0_checkCpu 22 = .ok (.return_, 1) := by decide +kernel
theorem dX0_checkCore_0 : decode cX0_checkCore 0 = .ok (.iload_n 1, 1) := by decide +kernel
theorem dX0_checkCore_1 : decode cX0_checkCore 1 = .ok (.ifCond .lt 11, 3) := by decide +kernel
theorem dX0_checkCore_4 : decode cX0_checkCore 4 = .ok (.iload_n 1, 1) := by decide +kernel
theorem dX0_checkCore_5 : decode cX0_checkCore 5 = .ok (.aload_n 0, 1) := by decide +kernel
theorem dX0_checkCore_6 : decode cX0_checkCore 6 = .ok (.getfield 62, 3) := by decide +kernel
theorem dX0_checkCore_9 : decode cX0_checkCore 9 = .ok (.if_icmp .lt 13, 3) := by decide +kernel
theorem dX0_checkCore_12 : decode cX0_checkCore 12 = .ok (.new 55, 3) := by decide +kernel
theorem dX0_checkCore_15 : decode cX0_checkCore 15 = .ok (.dup, 1) := by decide +kernel
theorem dX0_checkCore_16 : decode cX0_checkCore 16 = .ok (.ldc 152, 2) := by decide +kernel
theorem dX0_checkCore_18 : decode cX0_checkCore 18 = .ok (.invokespecial 59, 3) := by decide +kernel
theorem dX0_checkCore_21 : decode cX0_checkCore 21 = .ok (.athrow, 1) := by decide +kernel
theorem dX0_checkCore_22 : decode cX0_checkCore 22 = .ok (.return_, 1) := by decide +kernel
theorem dX0_checkWeight_0 : decode cX0_checkWeight 0 = .ok (.iload_n 0, 1) := by decide +kernel
theorem dX0_checkWeight_1 : decode cX0_checkWeight 1 = .ok (.iconst 1, 1) := by decide +kernel
theorem dX0_checkWeight_2 : decode cX0_checkWeight 2 = .ok (.if_icmp .lt 9, 3) := by decide +kernel
theorem dX0_checkWeight_5 : decode cX0_checkWeight 5 = .ok (.iload_n 0, 1) := by decide +kernel
theorem dX0_checkWeight_6 : decode cX0_checkWeight 6 = .ok (.bipush 64, 2) := by decide +kernel
theorem dX0_checkWeight_8 : decode cX0_checkWeight 8 = .ok (.if_icmp .le 13, 3) := by decide +kernel
theorem dX0_checkWeight_11 : decode cX0_checkWeight 11 = .ok (.new 55, 3) := by decide +kernel
theorem dX0_checkWeight_14 : decode cX0_checkWeight 14 = .ok (.dup, 1) := by decide +kernel
theorem dX0_checkWeight_15 : decode cX0_checkWeight 15 = .ok (.ldc 154, 2) := by decide +kernel
theorem dX0_checkWeight_17 : decode cX0_checkWeight 17 = .ok (.invokespecial 59, 3) := by decide +kernel
theorem dX0_checkWeight_20 : decode cX0_checkWeight 20 = .ok (.athrow, 1) := by decide +kernel
theorem dX0_checkWeight_21 : decode cX0_checkWeight 21 = .ok (.return_, 1) := by decide +kernel
theorem dX0_checkCookie_0 : decode cX0_checkCookie 0 = .ok (.iload_n 0, 1) := by decide +kernel
theorem dX0_checkCookie_1 : decode cX0_checkCookie 1 = .ok (.ifCond .lt 9, 3) := by decide +kernel
theorem dX0_checkCookie_4 : decode cX0_checkCookie 4 = .ok (.iload_n 0, 1) := by decide +kernel
theorem dX0_checkCookie_5 : decode cX0_checkCookie 5 = .ok (.bipush 9, 2) := by decide +kernel
theorem dX0_checkCookie_7 : decode cX0_checkCookie 7 = .ok (.if_icmp .le 13, 3) := by decide +kernel
theorem dX0_checkCookie_10 : decode cX0_checkCookie 10 = .ok (.new 55, 3) := by decide +kernel
theorem dX0_checkCookie_13 : decode cX0_checkCookie 13 = .ok (.dup, 1) := by decide +kernel
theorem dX0_checkCookie_14 : decode cX0_checkCookie 14 = .ok (.ldc 156, 2) := by decide +kernel
theorem dX0_checkCookie_16 : decode cX0_checkCookie 16 = .ok (.invokespecial 59, 3) := by decide +kernel
theorem dX0_checkCookie_19 : decode cX0_checkCookie 19 = .ok (.athrow, 1) := by decide +kernel
theorem dX0_checkCookie_20 : decode cX0_checkCookie 20 = .ok (.return_, 1) := by decide +kernel
theorem dX0_checkNotExited_0 : decode cX0_checkNotExited 0 = .ok (.aload_n 0, 1) := by decide +kernel
theorem dX0_checkNotExited_1 : decode cX0_checkNotExited 1 = .ok (.getfield 19, 3) := by decide +kernel
theorem dX0_checkNotExited_4 : decode cX0_checkNotExited 4 = .ok (.iload_n 1, 1) := by decide +kernel
theorem dX0_checkNotExited_5 : decode cX0_checkNotExited 5 = .ok (.iaload, 1) := by decide +kernel
theorem dX0_checkNotExited_6 : decode cX0_checkNotExited 6 = .ok (.iconst 3, 1) := by decide +kernel
theorem dX0_checkNotExited_7 : decode cX0_checkNotExited 7 = .ok (.if_icmp .ne 13, 3) := by decide +kernel
theorem dX0_checkNotExited_10 : decode cX0_checkNotExited 10 = .ok (.new 88, 3) := by decide +kernel
theorem dX0_checkNotExited_13 : decode cX0_checkNotExited 13 = .ok (.dup, 1) := by decide +kernel
theorem dX0_checkNotExited_14 : decode cX0_checkNotExited 14 = .ok (.ldc 158, 2) := by decide +kernel
theorem dX0_checkNotExited_16 : decode cX0_checkNotExited 16 = .ok (.invokespecial 92, 3) := by decide +kernel
theorem dX0_checkNotExited_19 : decode cX0_checkNotExited 19 = .ok (.athrow, 1) := by decide +kernel
theorem dX0_checkNotExited_20 : decode cX0_checkNotExited 20 = .ok (.return_, 1) := by decide +kernel
theorem dX0_startAnew_0 : decode cX0_startAnew 0 = .ok (.aload_n 0, 1) := by decide +kernel
theorem dX0_startAnew_1 : decode cX0_startAnew 1 = .ok (.iload_n 1, 1) := by decide +kernel
theorem dX0_startAnew_2 : decode cX0_startAnew 2 = .ok (.putfield 62, 3) := by decide +kernel
theorem dX0_startAnew_5 : decode cX0_startAnew 5 = .ok (.aload_n 0, 1) := by decide +kernel
theorem dX0_startAnew_6 : decode cX0_startAnew 6 = .ok (.iconst 0, 1) := by decide +kernel
theorem dX0_startAnew_7 : decode cX0_startAnew 7 = .ok (.putfield 85, 3) := by decide +kernel
theorem dX0_startAnew_10 : decode cX0_startAnew 10 = .ok (.aload_n 0, 1) := by decide +kernel
theorem dX0_startAnew_11 : decode cX0_startAnew 11 = .ok (.iconst 0, 1) := by decide +kernel
theorem dX0_startAnew_12 : decode cX0_startAnew 12 = .ok (.putfield 142, 3) := by decide +kernel
theorem dX0_startAnew_15 : decode cX0_startAnew 15 = .ok (.aload_n 0, 1) := by decide +kernel
theorem dX0_startAnew_16 : decode cX0_startAnew 16 = .ok (.iconst 0, 1) := by decide +kernel
theorem dX0_startAnew_17 : decode cX0_startAnew 17 = .ok (.putfield 66, 3) := by decide +kernel
theorem dX0_startAnew_20 : decode cX0_startAnew 20 = .ok (.iconst 0, 1) := by decide +kernel
theorem dX0_startAnew_21 : decode cX0_startAnew 21 = .ok (.istore_n 2, 1) := by decide +kernel
theorem dX0_startAnew_22 : decode cX0_startAnew 22 = .ok (.iload_n 2, 1) := by decide +kernel
theorem dX0_startAnew_23 : decode cX0_startAnew 23 = .ok (.bipush 8, 2) := by decide +kernel
theorem dX0_startAnew_25 : decode cX0_startAnew 25 = .ok (.if_icmp .ge 44, 3) := by decide +kernel
theorem dX0_startAnew_28 : decode cX0_startAnew 28 = .ok (.aload_n 0, 1) := by decide +kernel
theorem dX0_startAnew_29 : decode cX0_startAnew 29 = .ok (.getfield 32, 3) := by decide +kernel
theorem dX0_startAnew_32 : decode cX0_startAnew 32 = .ok (.iload_n 2, 1) := by decide +kernel
theorem dX0_startAnew_33 : decode cX0_startAnew 33 = .ok (.lconst 0, 1) := by decide +kernel
theorem dX0_startAnew_34 : decode cX0_startAnew 34 = .ok (.lastore, 1) := by decide +kernel
theorem dX0_startAnew_35 : decode cX0_startAnew 35 = .ok (.aload_n 0, 1) := by decide +kernel
theorem dX0_startAnew_36 : decode cX0_startAnew 36 = .ok (.getfield 35, 3) := by decide +kernel
theorem dX0_startAnew_39 : decode cX0_startAnew 39 = .ok (.iload_n 2, 1) := by decide +kernel
theorem dX0_startAnew_40 : decode cX0_startAnew 40 = .ok (.iconst (-1), 1) := by decide +kernel
theorem dX0_startAnew_41 : decode cX0_startAnew 41 = .ok (.iastore, 1) := by decide +kernel
theorem dX0_startAnew_42 : decode cX0_startAnew 42 = .ok (.aload_n 0, 1) := by decide +kernel
theorem dX0_startAnew_43 : decode cX0_startAnew 43 = .ok (.getfield 38, 3) := by decide +kernel
theorem dX0_startAnew_46 : decode cX0_startAnew 46 = .ok (.iload_n 2, 1) := by decide +kernel
theorem dX0_startAnew_47 : decode cX0_startAnew 47 = .ok (.iconst 0, 1) := by decide +kernel
theorem dX0_startAnew_48 : decode cX0_startAnew 48 = .ok (.bastore, 1) := by decide +kernel
theorem dX0_startAnew_49 : decode cX0_startAnew 49 = .ok (.aload_n 0, 1) := by decide +kernel
theorem dX0_startAnew_50 : decode cX0_startAnew 50 = .ok (.getfield 42, 3) := by decide +kernel
theorem dX0_startAnew_53 : decode cX0_startAnew 53 = .ok (.iload_n 2, 1) := by decide +kernel
theorem dX0_startAnew_54 : decode cX0_startAnew 54 = .ok (.iconst 0, 1) := by decide +kernel
theorem dX0_startAnew_55 : decode cX0_startAnew 55 = .ok (.iastore, 1) := by decide +kernel
theorem dX0_startAnew_56 : decode cX0_startAnew 56 = .ok (.aload_n 0, 1) := by decide +kernel
theorem dX0_startAnew_57 : decode cX0_startAnew 57 = .ok (.getfield 45, 3) := by decide +kernel
theorem dX0_startAnew_60 : decode cX0_startAnew 60 = .ok (.iload_n 2, 1) := by decide +kernel
theorem dX0_startAnew_61 : decode cX0_startAnew 61 = .ok (.iconst 0, 1) := by decide +kernel
theorem dX0_startAnew_62 : decode cX0_startAnew 62 = .ok (.iastore, 1) := by decide +kernel
theorem dX0_startAnew_63 : decode cX0_startAnew 63 = .ok (.iinc 2 1, 3) := by decide +kernel
theorem dX0_startAnew_66 : decode cX0_startAnew 66 = .ok (.goto (-44), 3) := by decide +kernel
theorem dX0_startAnew_69 : decode cX0_startAnew 69 = .ok (.iconst 0, 1) := by decide +kernel
theorem dX0_startAnew_70 : decode cX0_startAnew 70 = .ok (.istore_n 2, 1) := by decide +kernel
theorem dX0_startAnew_71 : decode cX0_startAnew 71 = .ok (.iload_n 2, 1) := by decide +kernel
theorem dX0_startAnew_72 : decode cX0_startAnew 72 = .ok (.iconst 4, 1) := by decide +kernel
theorem dX0_startAnew_73 : decode cX0_startAnew 73 = .ok (.if_icmp .ge 16, 3) := by decide +kernel
theorem dX0_startAnew_76 : decode cX0_startAnew 76 = .ok (.aload_n 0, 1) := by decide +kernel
theorem dX0_startAnew_77 : decode cX0_startAnew 77 = .ok (.getfield 48, 3) := by decide +kernel
theorem dX0_startAnew_80 : decode cX0_startAnew 80 = .ok (.iload_n 2, 1) := by decide +kernel
theorem dX0_startAnew_81 : decode cX0_startAnew 81 = .ok (.iconst (-1), 1) := by decide +kernel
theorem dX0_startAnew_82 : decode cX0_startAnew 82 = .ok (.iastore, 1) := by decide +kernel
theorem dX0_startAnew_83 : decode cX0_startAnew 83 = .ok (.iinc 2 1, 3) := by decide +kernel
theorem dX0_startAnew_86 : decode cX0_startAnew 86 = .ok (.goto (-15), 3) := by decide +kernel
theorem dX0_startAnew_89 : decode cX0_startAnew 89 = .ok (.return_, 1) := by decide +kernel
theorem dX0_cpuTotal_0 : decode cX0_cpuTotal 0 = .ok (.iconst 2, 1) := by decide +kernel
theorem dX0_cpuTotal_1 : decode cX0_cpuTotal 1 = .ok (.aload_n 0, 1) := by decide +kernel
theorem dX0_cpuTotal_2 : decode cX0_cpuTotal 2 = .ok (.getfield 62, 3) := by decide +kernel
theorem dX0_cpuTotal_5 : decode cX0_cpuTotal 5 = .ok (.imul, 1) := by decide +kernel
theorem dX0_cpuTotal_6 : decode cX0_cpuTotal 6 = .ok (.ireturn, 1) := by decide +kernel
theorem dX0_coreOfCpu_0 : decode cX0_coreOfCpu 0 = .ok (.iload_n 0, 1) := by decide +kernel
theorem dX0_coreOfCpu_1 : decode cX0_coreOfCpu 1 = .ok (.iconst 2, 1) := by decide +kernel
theorem dX0_coreOfCpu_2 : decode cX0_coreOfCpu 2 = .ok (.idiv, 1) := by decide +kernel
theorem dX0_coreOfCpu_3 : decode cX0_coreOfCpu 3 = .ok (.ireturn, 1) := by decide +kernel
theorem dX0_isRunnable_0 : decode cX0_isRunnable 0 = .ok (.aload_n 0, 1) := by decide +kernel
theorem dX0_isRunnable_1 : decode cX0_isRunnable 1 = .ok (.getfield 19, 3) := by decide +kernel
theorem dX0_isRunnable_4 : decode cX0_isRunnable 4 = .ok (.iload_n 1, 1) := by decide +kernel
theorem dX0_isRunnable_5 : decode cX0_isRunnable 5 = .ok (.iaload, 1) := by decide +kernel
theorem dX0_isRunnable_6 : decode cX0_isRunnable 6 = .ok (.ifCond .eq 13, 3) := by decide +kernel
theorem dX0_isRunnable_9 : decode cX0_isRunnable 9 = .ok (.aload_n 0, 1) := by decide +kernel
theorem dX0_isRunnable_10 : decode cX0_isRunnable 10 = .ok (.getfield 19, 3) := by decide +kernel
theorem dX0_isRunnable_13 : decode cX0_isRunnable 13 = .ok (.iload_n 1, 1) := by decide +kernel
theorem dX0_isRunnable_14 : decode cX0_isRunnable 14 = .ok (.iaload, 1) := by decide +kernel
theorem dX0_isRunnable_15 : decode cX0_isRunnable 15 = .ok (.iconst 1, 1) := by decide +kernel
theorem dX0_isRunnable_16 : decode cX0_isRunnable 16 = .ok (.if_icmp .ne 7, 3) := by decide +kernel
theorem dX0_isRunnable_19 : decode cX0_isRunnable 19 = .ok (.iconst 1, 1) := by decide +kernel
theorem dX0_isRunnable_20 : decode cX0_isRunnable 20 = .ok (.goto 4, 3) := by decide +kernel
theorem dX0_isRunnable_23 : decode cX0_isRunnable 23 = .ok (.iconst 0, 1) := by decide +kernel
theorem dX0_isRunnable_24 : decode cX0_isRunnable 24 = .ok (.ireturn, 1) := by decide +kernel
theorem dX0_isQueued_0 : decode cX0_isQueued 0 = .ok (.aload_n 0, 1) := by decide +kernel
theorem dX0_isQueued_1 : decode cX0_isQueued 1 = .ok (.getfield 9, 3) := by decide +kernel
theorem dX0_isQueued_4 : decode cX0_isQueued 4 = .ok (.iload_n 1, 1) := by decide +kernel
theorem dX0_isQueued_5 : decode cX0_isQueued 5 = .ok (.iaload, 1) := by decide +kernel
theorem dX0_isQueued_6 : decode cX0_isQueued 6 = .ok (.iload_n 2, 1) := by decide +kernel
theorem dX0_isQueued_7 : decode cX0_isQueued 7 = .ok (.if_icmp .ne 15, 3) := by decide +kernel
theorem dX0_isQueued_10 : decode cX0_isQueued 10 = .ok (.aload_n 0, 1) := by decide +kernel
theorem dX0_isQueued_11 : decode cX0_isQueued 11 = .ok (.iload_n 1, 1) := by decide +kernel
theorem dX0_isQueued_12 : decode cX0_isQueued 12 = .ok (.invokevirtual 99, 3) := by decide +kernel
theorem dX0_isQueued_15 : decode cX0_isQueued 15 = .ok (.ifCond .eq 7, 3) := by decide +kernel
theorem dX0_isQueued_18 : decode cX0_isQueued 18 = .ok (.iconst 1, 1) := by decide +kernel
theorem dX0_isQueued_19 : decode cX0_isQueued 19 = .ok (.goto 4, 3) := by decide +kernel
theorem dX0_isQueued_22 : decode cX0_isQueued 22 = .ok (.iconst 0, 1) := by decide +kernel
theorem dX0_isQueued_23 : decode cX0_isQueued 23 = .ok (.ireturn, 1) := by decide +kernel
theorem dX0_isOnCore_0 : decode cX0_isOnCore 0 = .ok (.aload_n 0, 1) := by decide +kernel
theorem dX0_isOnCore_1 : decode cX0_isOnCore 1 = .ok (.getfield 9, 3) := by decide +kernel
theorem dX0_isOnCore_4 : decode cX0_isOnCore 4 = .ok (.iload_n 1, 1) := by decide +kernel
theorem dX0_isOnCore_5 : decode cX0_isOnCore 5 = .ok (.iaload, 1) := by decide +kernel
theorem dX0_isOnCore_6 : decode cX0_isOnCore 6 = .ok (.invokestatic 160, 3) := by decide +kernel
theorem dX0_isOnCore_9 : decode cX0_isOnCore 9 = .ok (.iload_n 2, 1) := by decide +kernel
theorem dX0_isOnCore_10 : decode cX0_isOnCore 10 = .ok (.if_icmp .ne 7, 3) := by decide +kernel
theorem dX0_isOnCore_13 : decode cX0_isOnCore 13 = .ok (.iconst 1, 1) := by decide +kernel
theorem dX0_isOnCore_14 : decode cX0_isOnCore 14 = .ok (.goto 4, 3) := by decide +kernel
theorem dX0_isOnCore_17 : decode cX0_isOnCore 17 = .ok (.iconst 0, 1) := by decide +kernel
theorem dX0_isOnCore_18 : decode cX0_isOnCore 18 = .ok (.ireturn, 1) := by decide +kernel
theorem dX0_relativeTime_0 : decode cX0_relativeTime 0 = .ok (.aload_n 0, 1) := by decide +kernel
theorem dX0_relativeTime_1 : decode cX0_relativeTime 1 = .ok (.getfield 22, 3) := by decide +kernel
theorem dX0_relativeTime_4 : decode cX0_relativeTime 4 = .ok (.iload_n 1, 1) := by decide +kernel
theorem dX0_relativeTime_5 : decode cX0_relativeTime 5 = .ok (.laload, 1) := by decide +kernel
theorem dX0_relativeTime_6 : decode cX0_relativeTime 6 = .ok (.aload_n 0, 1) := by decide +kernel
theorem dX0_relativeTime_7 : decode cX0_relativeTime 7 = .ok (.getfield 32, 3) := by decide +kernel
theorem dX0_relativeTime_10 : decode cX0_relativeTime 10 = .ok (.aload_n 0, 1) := by decide +kernel
theorem dX0_relativeTime_11 : decode cX0_relativeTime 11 = .ok (.getfield 9, 3) := by decide +kernel
theorem dX0_relativeTime_14 : decode cX0_relativeTime 14 = .ok (.iload_n 1, 1) := by decide +kernel
theorem dX0_relativeTime_15 : decode cX0_relativeTime 15 = .ok (.iaload, 1) := by decide +kernel
theorem dX0_relativeTime_16 : decode cX0_relativeTime 16 = .ok (.laload, 1) := by decide +kernel
theorem dX0_relativeTime_17 : decode cX0_relativeTime 17 = .ok (.lsub, 1) := by decide +kernel
theorem dX0_relativeTime_18 : decode cX0_relativeTime 18 = .ok (.lreturn, 1) := by decide +kernel
theorem dX0_comesBefore_0 : decode cX0_comesBefore 0 = .ok (.iload_n 2, 1) := by decide +kernel
theorem dX0_comesBefore_1 : decode cX0_comesBefore 1 = .ok (.iconst (-1), 1) := by decide +kernel
theorem dX0_comesBefore_2 : decode cX0_comesBefore 2 = .ok (.if_icmp .ne 5, 3) := by decide +kernel
theorem dX0_comesBefore_5 : decode cX0_comesBefore 5 = .ok (.iconst 1, 1) := by decide +kernel
theorem dX0_comesBefore_6 : decode cX0_comesBefore 6 = .ok (.ireturn, 1) := by decide +kernel
theorem dX0_comesBefore_7 : decode cX0_comesBefore 7 = .ok (.aload_n 0, 1) := by decide +kernel
theorem dX0_comesBefore_8 : decode cX0_comesBefore 8 = .ok (.iload_n 1, 1) := by decide +kernel
theorem dX0_comesBefore_9 : decode cX0_comesBefore 9 = .ok (.invokevirtual 163, 3) := by decide +kernel
theorem dX0_comesBefore_12 : decode cX0_comesBefore 12 = .ok (.lstore_n 3, 1) := by decide +kernel
theorem dX0_comesBefore_13 : decode cX0_comesBefore 13 = .ok (.aload_n 0, 1) := by decide +kernel
theorem dX0_comesBefore_14 : decode cX0_comesBefore 14 = .ok (.iload_n 2, 1) := by decide +kernel
theorem dX0_comesBefore_15 : decode cX0_comesBefore 15 = .ok (.invokevirtual 163, 3) := by decide +kernel
theorem dX0_comesBefore_18 : decode cX0_comesBefore 18 = .ok (.lstore 5, 2) := by decide +kernel
theorem dX0_comesBefore_20 : decode cX0_comesBefore 20 = .ok (.lload_n 3, 1) := by decide +kernel
theorem dX0_comesBefore_21 : decode cX0_comesBefore 21 = .ok (.lload 5, 2) := by decide +kernel
theorem dX0_comesBefore_23 : decode cX0_comesBefore 23 = .ok (.lcmp, 1) := by decide +kernel
theorem dX0_comesBefore_24 : decode cX0_comesBefore 24 = .ok (.ifCond .lt 15, 3) := by decide +kernel
theorem dX0_comesBefore_27 : decode cX0_comesBefore 27 = .ok (.lload_n 3, 1) := by decide +kernel
theorem dX0_comesBefore_28 : decode cX0_comesBefore 28 = .ok (.lload 5, 2) := by decide +kernel
theorem dX0_comesBefore_30 : decode cX0_comesBefore 30 = .ok (.lcmp, 1) := by decide +kernel
theorem dX0_comesBefore_31 : decode cX0_comesBefore 31 = .ok (.ifCond .ne 12, 3) := by decide +kernel
theorem dX0_comesBefore_34 : decode cX0_comesBefore 34 = .ok (.iload_n 1, 1) := by decide +kernel
theorem dX0_comesBefore_35 : decode cX0_comesBefore 35 = .ok (.iload_n 2, 1) := by decide +kernel
theorem dX0_comesBefore_36 : decode cX0_comesBefore 36 = .ok (.if_icmp .ge 7, 3) := by decide +kernel
theorem dX0_comesBefore_39 : decode cX0_comesBefore 39 = .ok (.iconst 1, 1) := by decide +kernel
theorem dX0_comesBefore_40 : decode cX0_comesBefore 40 = .ok (.goto 4, 3) := by decide +kernel
theorem dX0_comesBefore_43 : decode cX0_comesBefore 43 = .ok (.iconst 0, 1) := by decide +kernel
theorem dX0_comesBefore_44 : decode cX0_comesBefore 44 = .ok (.ireturn, 1) := by decide +kernel
theorem dX0_positionOf_0 : decode cX0_positionOf 0 = .ok (.iconst 0, 1) := by decide +kernel
theorem dX0_positionOf_1 : decode cX0_positionOf 1 = .ok (.istore_n 2, 1) := by decide +kernel
theorem dX0_positionOf_2 : decode cX0_positionOf 2 = .ok (.iconst 0, 1) := by decide +kernel
theorem dX0_positionOf_3 : decode cX0_positionOf 3 = .ok (.istore_n 3, 1) := by decide +kernel
theorem dX0_positionOf_4 : decode cX0_positionOf 4 = .ok (.iload_n 3, 1) := by decide +kernel
theorem dX0_positionOf_5 : decode cX0_positionOf 5 = .ok (.aload_n 0, 1) := by decide +kernel
theorem dX0_positionOf_6 : decode cX0_positionOf 6 = .ok (.getfield 85, 3) := by decide +kernel
theorem dX0_positionOf_9 : decode cX0_positionOf 9 = .ok (.if_icmp .ge 35, 3) := by decide +kernel
theorem dX0_positionOf_12 : decode cX0_positionOf 12 = .ok (.aload_n 0, 1) := by decide +kernel
theorem dX0_positionOf_13 : decode cX0_positionOf 13 = .ok (.iload_n 3, 1) := by decide +kernel
theorem dX0_positionOf_14 : decode cX0_positionOf 14 = .ok (.aload_n 0, 1) := by decide +kernel
theorem dX0_positionOf_15 : decode cX0_positionOf 15 = .ok (.getfield 9, 3) := by decide +kernel
theorem dX0_positionOf_18 : decode cX0_positionOf 18 = .ok (.iload_n 1, 1) := by decide +kernel
theorem dX0_positionOf_19 : decode cX0_positionOf 19 = .ok (.iaload, 1) := by decide +kernel
theorem dX0_positionOf_20 : decode cX0_positionOf 20 = .ok (.invokevirtual 130, 3) := by decide +kernel
theorem dX0_positionOf_23 : decode cX0_positionOf 23 = .ok (.ifCond .eq 15, 3) := by decide +kernel
theorem dX0_positionOf_26 : decode cX0_positionOf 26 = .ok (.aload_n 0, 1) := by decide +kernel
theorem dX0_positionOf_27 : decode cX0_positionOf 27 = .ok (.iload_n 3, 1) := by decide +kernel
theorem dX0_positionOf_28 : decode cX0_positionOf 28 = .ok (.iload_n 1, 1) := by decide +kernel
theorem dX0_positionOf_29 : decode cX0_positionOf 29 = .ok (.invokevirtual 167, 3) := by decide +kernel
theorem dX0_positionOf_32 : decode cX0_positionOf 32 = .ok (.ifCond .eq 6, 3) := by decide +kernel
theorem dX0_positionOf_35 : decode cX0_positionOf 35 = .ok (.iinc 2 1, 3) := by decide +kernel
theorem dX0_positionOf_38 : decode cX0_positionOf 38 = .ok (.iinc 3 1, 3) := by decide +kernel
theorem dX0_positionOf_41 : decode cX0_positionOf 41 = .ok (.goto (-37), 3) := by decide +kernel
theorem dX0_positionOf_44 : decode cX0_positionOf 44 = .ok (.iload_n 2, 1) := by decide +kernel
theorem dX0_positionOf_45 : decode cX0_positionOf 45 = .ok (.ireturn, 1) := by decide +kernel
theorem dX0_countQueue_0 : decode cX0_countQueue 0 = .ok (.iconst 0, 1) := by decide +kernel
theorem dX0_countQueue_1 : decode cX0_countQueue 1 = .ok (.istore_n 2, 1) := by decide +kernel
theorem dX0_countQueue_2 : decode cX0_countQueue 2 = .ok (.iconst 0, 1) := by decide +kernel
theorem dX0_countQueue_3 : decode cX0_countQueue 3 = .ok (.istore_n 3, 1) := by decide +kernel
theorem dX0_countQueue_4 : decode cX0_countQueue 4 = .ok (.iload_n 3, 1) := by decide +kernel
theorem dX0_countQueue_5 : decode cX0_countQueue 5 = .ok (.aload_n 0, 1) := by decide +kernel
theorem dX0_countQueue_6 : decode cX0_countQueue 6 = .ok (.getfield 85, 3) := by decide +kernel
theorem dX0_countQueue_9 : decode cX0_countQueue 9 = .ok (.if_icmp .ge 21, 3) := by decide +kernel
theorem dX0_countQueue_12 : decode cX0_countQueue 12 = .ok (.aload_n 0, 1) := by decide +kernel
theorem dX0_countQueue_13 : decode cX0_countQueue 13 = .ok (.iload_n 3, 1) := by decide +kernel
theorem dX0_countQueue_14 : decode cX0_countQueue 14 = .ok (.iload_n 1, 1) := by decide +kernel
theorem dX0_countQueue_15 : decode cX0_countQueue 15 = .ok (.invokevirtual 130, 3) := by decide +kernel
theorem dX0_countQueue_18 : decode cX0_countQueue 18 = .ok (.ifCond .eq 6, 3) := by decide +kernel
theorem dX0_countQueue_21 : decode cX0_countQueue 21 = .ok (.iinc 2 1, 3) := by decide +kernel
theorem dX0_countQueue_24 : decode cX0_countQueue 24 = .ok (.iinc 3 1, 3) := by decide +kernel
theorem dX0_countQueue_27 : decode cX0_countQueue 27 = .ok (.goto (-23), 3) := by decide +kernel
theorem dX0_countQueue_30 : decode cX0_countQueue 30 = .ok (.iload_n 2, 1) := by decide +kernel
theorem dX0_countQueue_31 : decode cX0_countQueue 31 = .ok (.ireturn, 1) := by decide +kernel
theorem dX0_enterQueue_0 : decode cX0_enterQueue 0 = .ok (.aload_n 0, 1) := by decide +kernel
theorem dX0_enterQueue_1 : decode cX0_enterQueue 1 = .ok (.getfield 22, 3) := by decide +kernel
theorem dX0_enterQueue_4 : decode cX0_enterQueue 4 = .ok (.iload_n 1, 1) := by decide +kernel
theorem dX0_enterQueue_5 : decode cX0_enterQueue 5 = .ok (.aload_n 0, 1) := by decide +kernel
theorem dX0_enterQueue_6 : decode cX0_enterQueue 6 = .ok (.getfield 22, 3) := by decide +kernel
theorem dX0_enterQueue_9 : decode cX0_enterQueue 9 = .ok (.iload_n 1, 1) := by decide +kernel
theorem dX0_enterQueue_10 : decode cX0_enterQueue 10 = .ok (.laload, 1) := by decide +kernel
theorem dX0_enterQueue_11 : decode cX0_enterQueue 11 = .ok (.aload_n 0, 1) := by decide +kernel
theorem dX0_enterQueue_12 : decode cX0_enterQueue 12 = .ok (.getfield 32, 3) := by decide +kernel
theorem dX0_enterQueue_15 : decode cX0_enterQueue 15 = .ok (.aload_n 0, 1) := by decide +kernel
theorem dX0_enterQueue_16 : decode cX0_enterQueue 16 = .ok (.getfield 9, 3) := by decide +kernel
theorem dX0_enterQueue_19 : decode cX0_enterQueue 19 = .ok (.iload_n 1, 1) := by decide +kernel
theorem dX0_enterQueue_20 : decode cX0_enterQueue 20 = .ok (.iaload, 1) := by decide +kernel
theorem dX0_enterQueue_21 : decode cX0_enterQueue 21 = .ok (.laload, 1) := by decide +kernel
theorem dX0_enterQueue_22 : decode cX0_enterQueue 22 = .ok (.invokestatic 170, 3) := by decide +kernel
theorem dX0_enterQueue_25 : decode cX0_enterQueue 25 = .ok (.lastore, 1) := by decide +kernel
theorem dX0_enterQueue_26 : decode cX0_enterQueue 26 = .ok (.aload_n 0, 1) := by decide +kernel
theorem dX0_enterQueue_27 : decode cX0_enterQueue 27 = .ok (.getfield 19, 3) := by decide +kernel
theorem dX0_enterQueue_30 : decode cX0_enterQueue 30 = .ok (.iload_n 1, 1) := by decide +kernel
theorem dX0_enterQueue_31 : decode cX0_enterQueue 31 = .ok (.iconst 0, 1) := by decide +kernel
theorem dX0_enterQueue_32 : decode cX0_enterQueue 32 = .ok (.iastore, 1) := by decide +kernel
theorem dX0_enterQueue_33 : decode cX0_enterQueue 33 = .ok (.return_, 1) := by decide +kernel
theorem dX0_stopTask_0 : decode cX0_stopTask 0 = .ok (.aload_n 0, 1) := by decide +kernel
theorem dX0_stopTask_1 : decode cX0_stopTask 1 = .ok (.getfield 19, 3) := by decide +kernel
theorem dX0_stopTask_4 : decode cX0_stopTask 4 = .ok (.iload_n 1, 1) := by decide +kernel
theorem dX0_stopTask_5 : decode cX0_stopTask 5 = .ok (.iaload, 1) := by decide +kernel
theorem dX0_stopTask_6 : decode cX0_stopTask 6 = .ok (.istore_n 3, 1) := by decide +kernel
theorem dX0_stopTask_7 : decode cX0_stopTask 7 = .ok (.iload_n 3, 1) := by decide +kernel
theorem dX0_stopTask_8 : decode cX0_stopTask 8 = .ok (.iconst 1, 1) := by decide +kernel
theorem dX0_stopTask_9 : decode cX0_stopTask 9 = .ok (.if_icmp .ne 15, 3) := by decide +kernel
theorem dX0_stopTask_12 : decode cX0_stopTask 12 = .ok (.aload_n 0, 1) := by decide +kernel
theorem dX0_stopTask_13 : decode cX0_stopTask 13 = .ok (.getfield 35, 3) := by decide +kernel
theorem dX0_stopTask_16 : decode cX0_stopTask 16 = .ok (.aload_n 0, 1) := by decide +kernel
theorem dX0_stopTask_17 : decode cX0_stopTask 17 = .ok (.getfield 9, 3) := by decide +kernel
theorem dX0_stopTask_20 : decode cX0_stopTask 20 = .ok (.iload_n 1, 1) := by decide +kernel
theorem dX0_stopTask_21 : decode cX0_stopTask 21 = .ok (.iaload, 1) := by decide +kernel
theorem dX0_stopTask_22 : decode cX0_stopTask 22 = .ok (.iconst (-1), 1) := by decide +kernel
theorem dX0_stopTask_23 : decode cX0_stopTask 23 = .ok (.iastore, 1) := by decide +kernel
theorem dX0_stopTask_24 : decode cX0_stopTask 24 = .ok (.aload_n 0, 1) := by decide +kernel
theorem dX0_stopTask_25 : decode cX0_stopTask 25 = .ok (.getfield 19, 3) := by decide +kernel
theorem dX0_stopTask_28 : decode cX0_stopTask 28 = .ok (.iload_n 1, 1) := by decide +kernel
theorem dX0_stopTask_29 : decode cX0_stopTask 29 = .ok (.iload_n 2, 1) := by decide +kernel
theorem dX0_stopTask_30 : decode cX0_stopTask 30 = .ok (.iastore, 1) := by decide +kernel
theorem dX0_stopTask_31 : decode cX0_stopTask 31 = .ok (.iload_n 3, 1) := by decide +kernel
theorem dX0_stopTask_32 : decode cX0_stopTask 32 = .ok (.ireturn, 1) := by decide +kernel
theorem dX0_moveRunnable_0 : decode cX0_moveRunnable 0 = .ok (.aload_n 0, 1) := by decide +kernel
theorem dX0_moveRunnable_1 : decode cX0_moveRunnable 1 = .ok (.getfield 22, 3) := by decide +kernel
theorem dX0_moveRunnable_4 : decode cX0_moveRunnable 4 = .ok (.iload_n 1, 1) := by decide +kernel
theorem dX0_moveRunnable_5 : decode cX0_moveRunnable 5 = .ok (.aload_n 0, 1) := by decide +kernel
theorem dX0_moveRunnable_6 : decode cX0_moveRunnable 6 = .ok (.iload_n 1, 1) := by decide +kernel
theorem dX0_moveRunnable_7 : decode cX0_moveRunnable 7 = .ok (.invokevirtual 163, 3) := by decide +kernel
theorem dX0_moveRunnable_10 : decode cX0_moveRunnable 10 = .ok (.aload_n 0, 1) := by decide +kernel
theorem dX0_moveRunnable_11 : decode cX0_moveRunnable 11 = .ok (.getfield 32, 3) := by decide +kernel
theorem dX0_moveRunnable_14 : decode cX0_moveRunnable 14 = .ok (.iload_n 2, 1) := by decide +kernel
theorem dX0_moveRunnable_15 : decode cX0_moveRunnable 15 = .ok (.laload, 1) := by decide +kernel
theorem dX0_moveRunnable_16 : decode cX0_moveRunnable 16 = .ok (.ladd, 1) := by decide +kernel
theorem dX0_moveRunnable_17 : decode cX0_moveRunnable 17 = .ok (.lastore, 1) := by decide +kernel
theorem dX0_moveRunnable_18 : decode cX0_moveRunnable 18 = .ok (.aload_n 0, 1) := by decide +kernel
theorem dX0_moveRunnable_19 : decode cX0_moveRunnable 19 = .ok (.getfield 9, 3) := by decide +kernel
theorem dX0_moveRunnable_22 : decode cX0_moveRunnable 22 = .ok (.iload_n 1, 1) := by decide +kernel
theorem dX0_moveRunnable_23 : decode cX0_moveRunnable 23 = .ok (.iload_n 2, 1) := by decide +kernel
theorem dX0_moveRunnable_24 : decode cX0_moveRunnable 24 = .ok (.iastore, 1) := by decide +kernel
theorem dX0_moveRunnable_25 : decode cX0_moveRunnable 25 = .ok (.return_, 1) := by decide +kernel
theorem dX0_pickForCore_0 : decode cX0_pickForCore 0 = .ok (.aload_n 0, 1) := by decide +kernel
theorem dX0_pickForCore_1 : decode cX0_pickForCore 1 = .ok (.iload_n 1, 1) := by decide +kernel
theorem dX0_pickForCore_2 : decode cX0_pickForCore 2 = .ok (.invokevirtual 123, 3) := by decide +kernel
theorem dX0_pickForCore_5 : decode cX0_pickForCore 5 = .ok (.istore_n 2, 1) := by decide +kernel
theorem dX0_pickForCore_6 : decode cX0_pickForCore 6 = .ok (.iload_n 2, 1) := by decide +kernel
theorem dX0_pickForCore_7 : decode cX0_pickForCore 7 = .ok (.iconst (-1), 1) := by decide +kernel
theorem dX0_pickForCore_8 : decode cX0_pickForCore 8 = .ok (.if_icmp .ne 7, 3) := by decide +kernel
theorem dX0_pickForCore_11 : decode cX0_pickForCore 11 = .ok (.iconst (-1), 1) := by decide +kernel
theorem dX0_pickForCore_12 : decode cX0_pickForCore 12 = .ok (.goto 9, 3) := by decide +kernel
theorem dX0_pickForCore_15 : decode cX0_pickForCore 15 = .ok (.aload_n 0, 1) := by decide +kernel
theorem dX0_pickForCore_16 : decode cX0_pickForCore 16 = .ok (.getfield 16, 3) := by decide +kernel
theorem dX0_pickForCore_19 : decode cX0_pickForCore 19 = .ok (.iload_n 2, 1) := by decide +kernel
theorem dX0_pickForCore_20 : decode cX0_pickForCore 20 = .ok (.iaload, 1) := by decide +kernel
theorem dX0_pickForCore_21 : decode cX0_pickForCore 21 = .ok (.istore_n 3, 1) := by decide +kernel
theorem dX0_pickForCore_22 : decode cX0_pickForCore 22 = .ok (.aload_n 0, 1) := by decide +kernel
theorem dX0_pickForCore_23 : decode cX0_pickForCore 23 = .ok (.getfield 48, 3) := by decide +kernel
theorem dX0_pickForCore_26 : decode cX0_pickForCore 26 = .ok (.iload_n 1, 1) := by decide +kernel
theorem dX0_pickForCore_27 : decode cX0_pickForCore 27 = .ok (.iload_n 3, 1) := by decide +kernel
theorem dX0_pickForCore_28 : decode cX0_pickForCore 28 = .ok (.iastore, 1) := by decide +kernel
theorem dX0_pickForCore_29 : decode cX0_pickForCore 29 = .ok (.aload_n 0, 1) := by decide +kernel
theorem dX0_pickForCore_30 : decode cX0_pickForCore 30 = .ok (.iload_n 1, 1) := by decide +kernel
theorem dX0_pickForCore_31 : decode cX0_pickForCore 31 = .ok (.invokevirtual 176, 3) := by decide +kernel
theorem dX0_pickForCore_34 : decode cX0_pickForCore 34 = .ok (.iconst 2, 1) := by decide +kernel
theorem dX0_pickForCore_35 : decode cX0_pickForCore 35 = .ok (.iload_n 1, 1) := by decide +kernel
theorem dX0_pickForCore_36 : decode cX0_pickForCore 36 = .ok (.imul, 1) := by decide +kernel
theorem dX0_pickForCore_37 : decode cX0_pickForCore 37 = .ok (.istore 4, 2) := by decide +kernel
theorem dX0_pickForCore_39 : decode cX0_pickForCore 39 = .ok (.iload 4, 2) := by decide +kernel
theorem dX0_pickForCore_41 : decode cX0_pickForCore 41 = .ok (.istore 5, 2) := by decide +kernel
theorem dX0_pickForCore_43 : decode cX0_pickForCore 43 = .ok (.iload 5, 2) := by decide +kernel
theorem dX0_pickForCore_45 : decode cX0_pickForCore 45 = .ok (.iload 4, 2) := by decide +kernel
theorem dX0_pickForCore_47 : decode cX0_pickForCore 47 = .ok (.iconst 2, 1) := by decide +kernel
theorem dX0_pickForCore_48 : decode cX0_pickForCore 48 = .ok (.iadd, 1) := by decide +kernel
theorem dX0_pickForCore_49 : decode cX0_pickForCore 49 = .ok (.if_icmp .ge 35, 3) := by decide +kernel
theorem dX0_pickForCore_52 : decode cX0_pickForCore 52 = .ok (.iload_n 2, 1) := by decide +kernel
theorem dX0_pickForCore_53 : decode cX0_pickForCore 53 = .ok (.iconst (-1), 1) := by decide +kernel
theorem dX0_pickForCore_54 : decode cX0_pickForCore 54 = .ok (.if_icmp .ne 7, 3) := by decide +kernel
theorem dX0_pickForCore_57 : decode cX0_pickForCore 57 = .ok (.iconst (-1), 1) := by decide +kernel
theorem dX0_pickForCore_58 : decode cX0_pickForCore 58 = .ok (.goto 10, 3) := by decide +kernel
theorem dX0_pickForCore_61 : decode cX0_pickForCore 61 = .ok (.aload_n 0, 1) := by decide +kernel
theorem dX0_pickForCore_62 : decode cX0_pickForCore 62 = .ok (.iload 5, 2) := by decide +kernel
theorem dX0_pickForCore_64 : decode cX0_pickForCore 64 = .ok (.iload_n 3, 1) := by decide +kernel
theorem dX0_pickForCore_65 : decode cX0_pickForCore 65 = .ok (.invokevirtual 179, 3) := by decide +kernel
theorem dX0_pickForCore_68 : decode cX0_pickForCore 68 = .ok (.istore 6, 2) := by decide +kernel
theorem dX0_pickForCore_70 : decode cX0_pickForCore 70 = .ok (.aload_n 0, 1) := by decide +kernel
theorem dX0_pickForCore_71 : decode cX0_pickForCore 71 = .ok (.iload 5, 2) := by decide +kernel
theorem dX0_pickForCore_73 : decode cX0_pickForCore 73 = .ok (.iload 6, 2) := by decide +kernel
theorem dX0_pickForCore_75 : decode cX0_pickForCore 75 = .ok (.invokevirtual 182, 3) := by decide +kernel
theorem dX0_pickForCore_78 : decode cX0_pickForCore 78 = .ok (.iinc 5 1, 3) := by decide +kernel
theorem dX0_pickForCore_81 : decode cX0_pickForCore 81 = .ok (.goto (-38), 3) := by decide +kernel
theorem dX0_pickForCore_84 : decode cX0_pickForCore 84 = .ok (.return_, 1) := by decide +kernel
theorem dX0_findLeader_0 : decode cX0_findLeader 0 = .ok (.iconst (-1), 1) := by decide +kernel
theorem dX0_findLeader_1 : decode cX0_findLeader 1 = .ok (.istore_n 2, 1) := by decide +kernel
theorem dX0_findLeader_2 : decode cX0_findLeader 2 = .ok (.iconst 0, 1) := by decide +kernel
theorem dX0_findLeader_3 : decode cX0_findLeader 3 = .ok (.istore_n 3, 1) := by decide +kernel
theorem dX0_findLeader_4 : decode cX0_findLeader 4 = .ok (.iload_n 3, 1) := by decide +kernel
theorem dX0_findLeader_5 : decode cX0_findLeader 5 = .ok (.aload_n 0, 1) := by decide +kernel
theorem dX0_findLeader_6 : decode cX0_findLeader 6 = .ok (.getfield 85, 3) := by decide +kernel
theorem dX0_findLeader_9 : decode cX0_findLeader 9 = .ok (.if_icmp .ge 37, 3) := by decide +kernel
theorem dX0_findLeader_12 : decode cX0_findLeader 12 = .ok (.aload_n 0, 1) := by decide +kernel
theorem dX0_findLeader_13 : decode cX0_findLeader 13 = .ok (.iload_n 3, 1) := by decide +kernel
theorem dX0_findLeader_14 : decode cX0_findLeader 14 = .ok (.invokevirtual 99, 3) := by decide +kernel
theorem dX0_findLeader_17 : decode cX0_findLeader 17 = .ok (.ifCond .eq 23, 3) := by decide +kernel
theorem dX0_findLeader_20 : decode cX0_findLeader 20 = .ok (.aload_n 0, 1) := by decide +kernel
theorem dX0_findLeader_21 : decode cX0_findLeader 21 = .ok (.iload_n 3, 1) := by decide +kernel
theorem dX0_findLeader_22 : decode cX0_findLeader 22 = .ok (.iload_n 1, 1) := by decide +kernel
theorem dX0_findLeader_23 : decode cX0_findLeader 23 = .ok (.invokevirtual 185, 3) := by decide +kernel
theorem dX0_findLeader_26 : decode cX0_findLeader 26 = .ok (.ifCond .eq 14, 3) := by decide +kernel
theorem dX0_findLeader_29 : decode cX0_findLeader 29 = .ok (.aload_n 0, 1) := by decide +kernel
theorem dX0_findLeader_30 : decode cX0_findLeader 30 = .ok (.iload_n 3, 1) := by decide +kernel
theorem dX0_findLeader_31 : decode cX0_findLeader 31 = .ok (.iload_n 2, 1) := by decide +kernel
theorem dX0_findLeader_32 : decode cX0_findLeader 32 = .ok (.invokevirtual 167, 3) := by decide +kernel
theorem dX0_findLeader_35 : decode cX0_findLeader 35 = .ok (.ifCond .eq 5, 3) := by decide +kernel
theorem dX0_findLeader_38 : decode cX0_findLeader 38 = .ok (.iload_n 3, 1) := by decide +kernel
theorem dX0_findLeader_39 : decode cX0_findLeader 39 = .ok (.istore_n 2, 1) := by decide +kernel
theorem dX0_findLeader_40 : decode cX0_findLeader 40 = .ok (.iinc 3 1, 3) := by decide +kernel
theorem dX0_findLeader_43 : decode cX0_findLeader 43 = .ok (.goto (-39), 3) := by decide +kernel
theorem dX0_findLeader_46 : decode cX0_findLeader 46 = .ok (.iload_n 2, 1) := by decide +kernel
theorem dX0_findLeader_47 : decode cX0_findLeader 47 = .ok (.ireturn, 1) := by decide +kernel
theorem dX0_releaseTasks_0 : decode cX0_releaseTasks 0 = .ok (.iconst 0, 1) := by decide +kernel
theorem dX0_releaseTasks_1 : decode cX0_releaseTasks 1 = .ok (.istore_n 2, 1) := by decide +kernel
theorem dX0_releaseTasks_2 : decode cX0_releaseTasks 2 = .ok (.iload_n 2, 1) := by decide +kernel
theorem dX0_releaseTasks_3 : decode cX0_releaseTasks 3 = .ok (.aload_n 0, 1) := by decide +kernel
theorem dX0_releaseTasks_4 : decode cX0_releaseTasks 4 = .ok (.getfield 85, 3) := by decide +kernel
theorem dX0_releaseTasks_7 : decode cX0_releaseTasks 7 = .ok (.if_icmp .ge 35, 3) := by decide +kernel
theorem dX0_releaseTasks_10 : decode cX0_releaseTasks 10 = .ok (.aload_n 0, 1) := by decide +kernel
theorem dX0_releaseTasks_11 : decode cX0_releaseTasks 11 = .ok (.getfield 19, 3) := by decide +kernel
theorem dX0_releaseTasks_14 : decode cX0_releaseTasks 14 = .ok (.iload_n 2, 1) := by decide +kernel
theorem dX0_releaseTasks_15 : decode cX0_releaseTasks 15 = .ok (.iaload, 1) := by decide +kernel
theorem dX0_releaseTasks_16 : decode cX0_releaseTasks 16 = .ok (.iconst 1, 1) := by decide +kernel
theorem dX0_releaseTasks_17 : decode cX0_releaseTasks 17 = .ok (.if_icmp .ne 19, 3) := by decide +kernel
theorem dX0_releaseTasks_20 : decode cX0_releaseTasks 20 = .ok (.aload_n 0, 1) := by decide +kernel
theorem dX0_releaseTasks_21 : decode cX0_releaseTasks 21 = .ok (.iload_n 2, 1) := by decide +kernel
theorem dX0_releaseTasks_22 : decode cX0_releaseTasks 22 = .ok (.iload_n 1, 1) := by decide +kernel
theorem dX0_releaseTasks_23 : decode cX0_releaseTasks 23 = .ok (.invokevirtual 185, 3) := by decide +kernel
theorem dX0_releaseTasks_26 : decode cX0_releaseTasks 26 = .ok (.ifCond .eq 10, 3) := by decide +kernel
theorem dX0_releaseTasks_29 : decode cX0_releaseTasks 29 = .ok (.aload_n 0, 1) := by decide +kernel
theorem dX0_releaseTasks_30 : decode cX0_releaseTasks 30 = .ok (.getfield 19, 3) := by decide +kernel
theorem dX0_releaseTasks_33 : decode cX0_releaseTasks 33 = .ok (.iload_n 2, 1) := by decide +kernel
theorem dX0_releaseTasks_34 : decode cX0_releaseTasks 34 = .ok (.iconst 0, 1) := by decide +kernel
theorem dX0_releaseTasks_35 : decode cX0_releaseTasks 35 = .ok (.iastore, 1) := by decide +kernel
theorem dX0_releaseTasks_36 : decode cX0_releaseTasks 36 = .ok (.iinc 2 1, 3) := by decide +kernel
theorem dX0_releaseTasks_39 : decode cX0_releaseTasks 39 = .ok (.goto (-37), 3) := by decide +kernel
theorem dX0_releaseTasks_42 : decode cX0_releaseTasks 42 = .ok (.return_, 1) := by decide +kernel
theorem dX0_takeTask_0 : decode cX0_takeTask 0 = .ok (.aload_n 0, 1) := by decide +kernel
theorem dX0_takeTask_1 : decode cX0_takeTask 1 = .ok (.iload_n 1, 1) := by decide +kernel
theorem dX0_takeTask_2 : decode cX0_takeTask 2 = .ok (.iload_n 2, 1) := by decide +kernel
theorem dX0_takeTask_3 : decode cX0_takeTask 3 = .ok (.invokevirtual 188, 3) := by decide +kernel
theorem dX0_takeTask_6 : decode cX0_takeTask 6 = .ok (.istore_n 3, 1) := by decide +kernel
theorem dX0_takeTask_7 : decode cX0_takeTask 7 = .ok (.iload_n 3, 1) := by decide +kernel
theorem dX0_takeTask_8 : decode cX0_takeTask 8 = .ok (.iconst (-1), 1) := by decide +kernel
theorem dX0_takeTask_9 : decode cX0_takeTask 9 = .ok (.if_icmp .ne 10, 3) := by decide +kernel
theorem dX0_takeTask_12 : decode cX0_takeTask 12 = .ok (.aload_n 0, 1) := by decide +kernel
theorem dX0_takeTask_13 : decode cX0_takeTask 13 = .ok (.getfield 66, 3) := by decide +kernel
theorem dX0_takeTask_16 : decode cX0_takeTask 16 = .ok (.ifCond .ne 5, 3) := by decide +kernel
theorem dX0_takeTask_19 : decode cX0_takeTask 19 = .ok (.iload_n 3, 1) := by decide +kernel
theorem dX0_takeTask_20 : decode cX0_takeTask 20 = .ok (.ireturn, 1) := by decide +kernel
theorem dX0_takeTask_21 : decode cX0_takeTask 21 = .ok (.aload_n 0, 1) := by decide +kernel
theorem dX0_takeTask_22 : decode cX0_takeTask 22 = .ok (.iload_n 1, 1) := by decide +kernel
theorem dX0_takeTask_23 : decode cX0_takeTask 23 = .ok (.invokestatic 160, 3) := by decide +kernel
theorem dX0_takeTask_26 : decode cX0_takeTask 26 = .ok (.iload_n 2, 1) := by decide +kernel
theorem dX0_takeTask_27 : decode cX0_takeTask 27 = .ok (.invokevirtual 191, 3) := by decide +kernel
theorem dX0_takeTask_30 : decode cX0_takeTask 30 = .ok (.istore 4, 2) := by decide +kernel
theorem dX0_takeTask_32 : decode cX0_takeTask 32 = .ok (.iload 4, 2) := by decide +kernel
theorem dX0_takeTask_34 : decode cX0_takeTask 34 = .ok (.iconst (-1), 1) := by decide +kernel
theorem dX0_takeTask_35 : decode cX0_takeTask 35 = .ok (.if_icmp .eq 20, 3) := by decide +kernel
theorem dX0_takeTask_38 : decode cX0_takeTask 38 = .ok (.aload_n 0, 1) := by decide +kernel
theorem dX0_takeTask_39 : decode cX0_takeTask 39 = .ok (.iload 4, 2) := by decide +kernel
theorem dX0_takeTask_41 : decode cX0_takeTask 41 = .ok (.iload_n 1, 1) := by decide +kernel
theorem dX0_takeTask_42 : decode cX0_takeTask 42 = .ok (.invokevirtual 116, 3) := by decide +kernel
theorem dX0_takeTask_45 : decode cX0_takeTask 45 = .ok (.aload_n 0, 1) := by decide +kernel
theorem dX0_takeTask_46 : decode cX0_takeTask 46 = .ok (.dup, 1) := by decide +kernel
theorem dX0_takeTask_47 : decode cX0_takeTask 47 = .ok (.getfield 142, 3) := by decide +kernel
theorem dX0_takeTask_50 : decode cX0_takeTask 50 = .ok (.iconst 1, 1) := by decide +kernel
theorem dX0_takeTask_51 : decode cX0_takeTask 51 = .ok (.iadd, 1) := by decide +kernel
theorem dX0_takeTask_52 : decode cX0_takeTask 52 = .ok (.putfield 142, 3) := by decide +kernel
theorem dX0_takeTask_55 : decode cX0_takeTask 55 = .ok (.iload 4, 2) := by decide +kernel
theorem dX0_takeTask_57 : decode cX0_takeTask 57 = .ok (.ireturn, 1) := by decide +kernel
theorem dX0_findOwn_0 : decode cX0_findOwn 0 = .ok (.iconst (-1), 1) := by decide +kernel
theorem dX0_findOwn_1 : decode cX0_findOwn 1 = .ok (.istore_n 3, 1) := by decide +kernel
theorem dX0_findOwn_2 : decode cX0_findOwn 2 = .ok (.iconst 0, 1) := by decide +kernel
theorem dX0_findOwn_3 : decode cX0_findOwn 3 = .ok (.istore 4, 2) := by decide +kernel
theorem dX0_findOwn_5 : decode cX0_findOwn 5 = .ok (.iload 4, 2) := by decide +kernel
theorem dX0_findOwn_7 : decode cX0_findOwn 7 = .ok (.aload_n 0, 1) := by decide +kernel
theorem dX0_findOwn_8 : decode cX0_findOwn 8 = .ok (.getfield 85, 3) := by decide +kernel
theorem dX0_findOwn_11 : decode cX0_findOwn 11 = .ok (.if_icmp .ge 43, 3) := by decide +kernel
theorem dX0_findOwn_14 : decode cX0_findOwn 14 = .ok (.aload_n 0, 1) := by decide +kernel
theorem dX0_findOwn_15 : decode cX0_findOwn 15 = .ok (.iload 4, 2) := by decide +kernel
theorem dX0_findOwn_17 : decode cX0_findOwn 17 = .ok (.iload_n 1, 1) := by decide +kernel
theorem dX0_findOwn_18 : decode cX0_findOwn 18 = .ok (.invokevirtual 130, 3) := by decide +kernel
theorem dX0_findOwn_21 : decode cX0_findOwn 21 = .ok (.ifCond .eq 27, 3) := by decide +kernel
theorem dX0_findOwn_24 : decode cX0_findOwn 24 = .ok (.aload_n 0, 1) := by decide +kernel
theorem dX0_findOwn_25 : decode cX0_findOwn 25 = .ok (.getfield 16, 3) := by decide +kernel
theorem dX0_findOwn_28 : decode cX0_findOwn 28 = .ok (.iload 4, 2) := by decide +kernel
theorem dX0_findOwn_30 : decode cX0_findOwn 30 = .ok (.iaload, 1) := by decide +kernel
theorem dX0_findOwn_31 : decode cX0_findOwn 31 = .ok (.iload_n 2, 1) := by decide +kernel
theorem dX0_findOwn_32 : decode cX0_findOwn 32 = .ok (.if_icmp .ne 16, 3) := by decide +kernel
theorem dX0_findOwn_35 : decode cX0_findOwn 35 = .ok (.aload_n 0, 1) := by decide +kernel
theorem dX0_findOwn_36 : decode cX0_findOwn 36 = .ok (.iload 4, 2) := by decide +kernel
theorem dX0_findOwn_38 : decode cX0_findOwn 38 = .ok (.iload_n 3, 1) := by decide +kernel
theorem dX0_findOwn_39 : decode cX0_findOwn 39 = .ok (.invokevirtual 167, 3) := by decide +kernel
theorem dX0_findOwn_42 : decode cX0_findOwn 42 = .ok (.ifCond .eq 6, 3) := by decide +kernel
theorem dX0_findOwn_45 : decode cX0_findOwn 45 = .ok (.iload 4, 2) := by decide +kernel
theorem dX0_findOwn_47 : decode cX0_findOwn 47 = .ok (.istore_n 3, 1) := by decide +kernel
theorem dX0_findOwn_48 : decode cX0_findOwn 48 = .ok (.iinc 4 1, 3) := by decide +kernel
theorem dX0_findOwn_51 : decode cX0_findOwn 51 = .ok (.goto (-46), 3) := by decide +kernel
theorem dX0_findOwn_54 : decode cX0_findOwn 54 = .ok (.iload_n 3, 1) := by decide +kernel
theorem dX0_findOwn_55 : decode cX0_findOwn 55 = .ok (.ireturn, 1) := by decide +kernel
theorem dX0_findLoot_0 : decode cX0_findLoot 0 = .ok (.iconst (-1), 1) := by decide +kernel
theorem dX0_findLoot_1 : decode cX0_findLoot 1 = .ok (.istore_n 3, 1) := by decide +kernel
theorem dX0_findLoot_2 : decode cX0_findLoot 2 = .ok (.iconst 0, 1) := by decide +kernel
theorem dX0_findLoot_3 : decode cX0_findLoot 3 = .ok (.istore 4, 2) := by decide +kernel
theorem dX0_findLoot_5 : decode cX0_findLoot 5 = .ok (.iload 4, 2) := by decide +kernel
theorem dX0_findLoot_7 : decode cX0_findLoot 7 = .ok (.aload_n 0, 1) := by decide +kernel
theorem dX0_findLoot_8 : decode cX0_findLoot 8 = .ok (.getfield 85, 3) := by decide +kernel
theorem dX0_findLoot_11 : decode cX0_findLoot 11 = .ok (.if_icmp .ge 33, 3) := by decide +kernel
theorem dX0_findLoot_14 : decode cX0_findLoot 14 = .ok (.aload_n 0, 1) := by decide +kernel
theorem dX0_findLoot_15 : decode cX0_findLoot 15 = .ok (.iload 4, 2) := by decide +kernel
theorem dX0_findLoot_17 : decode cX0_findLoot 17 = .ok (.iload_n 1, 1) := by decide +kernel
theorem dX0_findLoot_18 : decode cX0_findLoot 18 = .ok (.iload_n 2, 1) := by decide +kernel
theorem dX0_findLoot_19 : decode cX0_findLoot 19 = .ok (.invokevirtual 194, 3) := by decide +kernel
theorem dX0_findLoot_22 : decode cX0_findLoot 22 = .ok (.ifCond .eq 16, 3) := by decide +kernel
theorem dX0_findLoot_25 : decode cX0_findLoot 25 = .ok (.aload_n 0, 1) := by decide +kernel
theorem dX0_findLoot_26 : decode cX0_findLoot 26 = .ok (.iload 4, 2) := by decide +kernel
theorem dX0_findLoot_28 : decode cX0_findLoot 28 = .ok (.iload_n 3, 1) := by decide +kernel
theorem dX0_findLoot_29 : decode cX0_findLoot 29 = .ok (.invokevirtual 167, 3) := by decide +kernel
theorem dX0_findLoot_32 : decode cX0_findLoot 32 = .ok (.ifCond .eq 6, 3) := by decide +kernel
theorem dX0_findLoot_35 : decode cX0_findLoot 35 = .ok (.iload 4, 2) := by decide +kernel
theorem dX0_findLoot_37 : decode cX0_findLoot 37 = .ok (.istore_n 3, 1) := by decide +kernel
theorem dX0_findLoot_38 : decode cX0_findLoot 38 = .ok (.iinc 4 1, 3) := by decide +kernel
theorem dX0_findLoot_41 : decode cX0_findLoot 41 = .ok (.goto (-36), 3) := by decide +kernel
theorem dX0_findLoot_44 : decode cX0_findLoot 44 = .ok (.iload_n 3, 1) := by decide +kernel
theorem dX0_findLoot_45 : decode cX0_findLoot 45 = .ok (.ireturn, 1) := by decide +kernel
theorem dX0_isLoot_0 : decode cX0_isLoot 0 = .ok (.aload_n 0, 1) := by decide +kernel
theorem dX0_isLoot_1 : decode cX0_isLoot 1 = .ok (.getfield 19, 3) := by decide +kernel
theorem dX0_isLoot_4 : decode cX0_isLoot 4 = .ok (.iload_n 1, 1) := by decide +kernel
theorem dX0_isLoot_5 : decode cX0_isLoot 5 = .ok (.iaload, 1) := by decide +kernel
theorem dX0_isLoot_6 : decode cX0_isLoot 6 = .ok (.ifCond .ne 26, 3) := by decide +kernel
theorem dX0_isLoot_9 : decode cX0_isLoot 9 = .ok (.aload_n 0, 1) := by decide +kernel
theorem dX0_isLoot_10 : decode cX0_isLoot 10 = .ok (.getfield 16, 3) := by decide +kernel
theorem dX0_isLoot_13 : decode cX0_isLoot 13 = .ok (.iload_n 1, 1) := by decide +kernel
theorem dX0_isLoot_14 : decode cX0_isLoot 14 = .ok (.iaload, 1) := by decide +kernel
theorem dX0_isLoot_15 : decode cX0_isLoot 15 = .ok (.iload_n 3, 1) := by decide +kernel
theorem dX0_isLoot_16 : decode cX0_isLoot 16 = .ok (.if_icmp .ne 16, 3) := by decide +kernel
theorem dX0_isLoot_19 : decode cX0_isLoot 19 = .ok (.aload_n 0, 1) := by decide +kernel
theorem dX0_isLoot_20 : decode cX0_isLoot 20 = .ok (.iload_n 1, 1) := by decide +kernel
theorem dX0_isLoot_21 : decode cX0_isLoot 21 = .ok (.iload_n 2, 1) := by decide +kernel
theorem dX0_isLoot_22 : decode cX0_isLoot 22 = .ok (.invokevirtual 185, 3) := by decide +kernel
theorem dX0_isLoot_25 : decode cX0_isLoot 25 = .ok (.ifCond .ne 7, 3) := by decide +kernel
theorem dX0_isLoot_28 : decode cX0_isLoot 28 = .ok (.iconst 1, 1) := by decide +kernel
theorem dX0_isLoot_29 : decode cX0_isLoot 29 = .ok (.goto 4, 3) := by decide +kernel
theorem dX0_isLoot_32 : decode cX0_isLoot 32 = .ok (.iconst 0, 1) := by decide +kernel
theorem dX0_isLoot_33 : decode cX0_isLoot 33 = .ok (.ireturn, 1) := by decide +kernel
theorem dX0_giveToCpu_0 : decode cX0_giveToCpu 0 = .ok (.aload_n 0, 1) := by decide +kernel
theorem dX0_giveToCpu_1 : decode cX0_giveToCpu 1 = .ok (.getfield 35, 3) := by decide +kernel
theorem dX0_giveToCpu_4 : decode cX0_giveToCpu 4 = .ok (.iload_n 1, 1) := by decide +kernel
theorem dX0_giveToCpu_5 : decode cX0_giveToCpu 5 = .ok (.iload_n 2, 1) := by decide +kernel
theorem dX0_giveToCpu_6 : decode cX0_giveToCpu 6 = .ok (.iastore, 1) := by decide +kernel
theorem dX0_giveToCpu_7 : decode cX0_giveToCpu 7 = .ok (.aload_n 0, 1) := by decide +kernel
theorem dX0_giveToCpu_8 : decode cX0_giveToCpu 8 = .ok (.getfield 38, 3) := by decide +kernel
theorem dX0_giveToCpu_11 : decode cX0_giveToCpu 11 = .ok (.iload_n 1, 1) := by decide +kernel
theorem dX0_giveToCpu_12 : decode cX0_giveToCpu 12 = .ok (.iload_n 2, 1) := by decide +kernel
theorem dX0_giveToCpu_13 : decode cX0_giveToCpu 13 = .ok (.iconst (-1), 1) := by decide +kernel
theorem dX0_giveToCpu_14 : decode cX0_giveToCpu 14 = .ok (.if_icmp .ne 15, 3) := by decide +kernel
theorem dX0_giveToCpu_17 : decode cX0_giveToCpu 17 = .ok (.aload_n 0, 1) := by decide +kernel
theorem dX0_giveToCpu_18 : decode cX0_giveToCpu 18 = .ok (.iload_n 1, 1) := by decide +kernel
theorem dX0_giveToCpu_19 : decode cX0_giveToCpu 19 = .ok (.invokevirtual 127, 3) := by decide +kernel
theorem dX0_giveToCpu_22 : decode cX0_giveToCpu 22 = .ok (.ifCond .le 7, 3) := by decide +kernel
theorem dX0_giveToCpu_25 : decode cX0_giveToCpu 25 = .ok (.iconst 1, 1) := by decide +kernel
theorem dX0_giveToCpu_26 : decode cX0_giveToCpu 26 = .ok (.goto 4, 3) := by decide +kernel
theorem dX0_giveToCpu_29 : decode cX0_giveToCpu 29 = .ok (.iconst 0, 1) := by decide +kernel
theorem dX0_giveToCpu_30 : decode cX0_giveToCpu 30 = .ok (.bastore, 1) := by decide +kernel
theorem dX0_giveToCpu_31 : decode cX0_giveToCpu 31 = .ok (.iload_n 2, 1) := by decide +kernel
theorem dX0_giveToCpu_32 : decode cX0_giveToCpu 32 = .ok (.iconst (-1), 1) := by decide +kernel
theorem dX0_giveToCpu_33 : decode cX0_giveToCpu 33 = .ok (.if_icmp .eq 10, 3) := by decide +kernel
theorem dX0_giveToCpu_36 : decode cX0_giveToCpu 36 = .ok (.aload_n 0, 1) := by decide +kernel
theorem dX0_giveToCpu_37 : decode cX0_giveToCpu 37 = .ok (.getfield 19, 3) := by decide +kernel
theorem dX0_giveToCpu_40 : decode cX0_giveToCpu 40 = .ok (.iload_n 2, 1) := by decide +kernel
theorem dX0_giveToCpu_41 : decode cX0_giveToCpu 41 = .ok (.iconst 1, 1) := by decide +kernel
theorem dX0_giveToCpu_42 : decode cX0_giveToCpu 42 = .ok (.iastore, 1) := by decide +kernel
theorem dX0_giveToCpu_43 : decode cX0_giveToCpu 43 = .ok (.return_, 1) := by decide +kernel
theorem dX0_simulateTick_0 : decode cX0_simulateTick 0 = .ok (.iconst 0, 1) := by decide +kernel
theorem dX0_simulateTick_1 : decode cX0_simulateTick 1 = .ok (.istore_n 1, 1) := by decide +kernel
theorem dX0_simulateTick_2 : decode cX0_simulateTick 2 = .ok (.iload_n 1, 1) := by decide +kernel
theorem dX0_simulateTick_3 : decode cX0_simulateTick 3 = .ok (.aload_n 0, 1) := by decide +kernel
theorem dX0_simulateTick_4 : decode cX0_simulateTick 4 = .ok (.getfield 62, 3) := by decide +kernel
theorem dX0_simulateTick_7 : decode cX0_simulateTick 7 = .ok (.if_icmp .ge 14, 3) := by decide +kernel
theorem dX0_simulateTick_10 : decode cX0_simulateTick 10 = .ok (.aload_n 0, 1) := by decide +kernel
theorem dX0_simulateTick_11 : decode cX0_simulateTick 11 = .ok (.iload_n 1, 1) := by decide +kernel
theorem dX0_simulateTick_12 : decode cX0_simulateTick 12 = .ok (.invokevirtual 198, 3) := by decide +kernel
theorem dX0_simulateTick_15 : decode cX0_simulateTick 15 = .ok (.iinc 1 1, 3) := by decide +kernel
theorem dX0_simulateTick_18 : decode cX0_simulateTick 18 = .ok (.goto (-16), 3) := by decide +kernel
theorem dX0_simulateTick_21 : decode cX0_simulateTick 21 = .ok (.aload_n 0, 1) := by decide +kernel
theorem dX0_simulateTick_22 : decode cX0_simulateTick 22 = .ok (.invokevirtual 201, 3) := by decide +kernel
theorem dX0_simulateTick_25 : decode cX0_simulateTick 25 = .ok (.istore_n 1, 1) := by decide +kernel
theorem dX0_simulateTick_26 : decode cX0_simulateTick 26 = .ok (.aload_n 0, 1) := by decide +kernel
theorem dX0_simulateTick_27 : decode cX0_simulateTick 27 = .ok (.invokevirtual 204, 3) := by decide +kernel
theorem dX0_simulateTick_30 : decode cX0_simulateTick 30 = .ok (.aload_n 0, 1) := by decide +kernel
theorem dX0_simulateTick_31 : decode cX0_simulateTick 31 = .ok (.invokevirtual 207, 3) := by decide +kernel
theorem dX0_simulateTick_34 : decode cX0_simulateTick 34 = .ok (.iload_n 1, 1) := by decide +kernel
theorem dX0_simulateTick_35 : decode cX0_simulateTick 35 = .ok (.ireturn, 1) := by decide +kernel
theorem dX0_chargeTasks_0 : decode cX0_chargeTasks 0 = .ok (.iconst 0, 1) := by decide +kernel
theorem dX0_chargeTasks_1 : decode cX0_chargeTasks 1 = .ok (.istore_n 1, 1) := by decide +kernel
theorem dX0_chargeTasks_2 : decode cX0_chargeTasks 2 = .ok (.iconst 0, 1) := by decide +kernel
theorem dX0_chargeTasks_3 : decode cX0_chargeTasks 3 = .ok (.istore_n 2, 1) := by decide +kernel
theorem dX0_chargeTasks_4 : decode cX0_chargeTasks 4 = .ok (.iload_n 2, 1) := by decide +kernel
theorem dX0_chargeTasks_5 : decode cX0_chargeTasks 5 = .ok (.aload_n 0, 1) := by decide +kernel
theorem dX0_chargeTasks_6 : decode cX0_chargeTasks 6 = .ok (.getfield 85, 3) := by decide +kernel
theorem dX0_chargeTasks_9 : decode cX0_chargeTasks 9 = .ok (.if_icmp .ge 73, 3) := by decide +kernel
theorem dX0_chargeTasks_12 : decode cX0_chargeTasks 12 = .ok (.aload_n 0, 1) := by decide +kernel
theorem dX0_chargeTasks_13 : decode cX0_chargeTasks 13 = .ok (.getfield 19, 3) := by decide +kernel
theorem dX0_chargeTasks_16 : decode cX0_chargeTasks 16 = .ok (.iload_n 2, 1) := by decide +kernel
theorem dX0_chargeTasks_17 : decode cX0_chargeTasks 17 = .ok (.iaload, 1) := by decide +kernel
theorem dX0_chargeTasks_18 : decode cX0_chargeTasks 18 = .ok (.iconst 1, 1) := by decide +kernel
theorem dX0_chargeTasks_19 : decode cX0_chargeTasks 19 = .ok (.if_icmp .ne 38, 3) := by decide +kernel
theorem dX0_chargeTasks_22 : decode cX0_chargeTasks 22 = .ok (.aload_n 0, 1) := by decide +kernel
theorem dX0_chargeTasks_23 : decode cX0_chargeTasks 23 = .ok (.getfield 26, 3) := by decide +kernel
theorem dX0_chargeTasks_26 : decode cX0_chargeTasks 26 = .ok (.iload_n 2, 1) := by decide +kernel
theorem dX0_chargeTasks_27 : decode cX0_chargeTasks 27 = .ok (.dup2, 1) := by decide +kernel
theorem dX0_chargeTasks_28 : decode cX0_chargeTasks 28 = .ok (.iaload, 1) := by decide +kernel
theorem dX0_chargeTasks_29 : decode cX0_chargeTasks 29 = .ok (.iconst 1, 1) := by decide +kernel
theorem dX0_chargeTasks_30 : decode cX0_chargeTasks 30 = .ok (.iadd, 1) := by decide +kernel
theorem dX0_chargeTasks_31 : decode cX0_chargeTasks 31 = .ok (.iastore, 1) := by decide +kernel
theorem dX0_chargeTasks_32 : decode cX0_chargeTasks 32 = .ok (.aload_n 0, 1) := by decide +kernel
theorem dX0_chargeTasks_33 : decode cX0_chargeTasks 33 = .ok (.getfield 22, 3) := by decide +kernel
theorem dX0_chargeTasks_36 : decode cX0_chargeTasks 36 = .ok (.iload_n 2, 1) := by decide +kernel
theorem dX0_chargeTasks_37 : decode cX0_chargeTasks 37 = .ok (.dup2, 1) := by decide +kernel
theorem dX0_chargeTasks_38 : decode cX0_chargeTasks 38 = .ok (.laload, 1) := by decide +kernel
theorem dX0_chargeTasks_39 : decode cX0_chargeTasks 39 = .ok (.aload_n 0, 1) := by decide +kernel
theorem dX0_chargeTasks_40 : decode cX0_chargeTasks 40 = .ok (.getfield 13, 3) := by decide +kernel
theorem dX0_chargeTasks_43 : decode cX0_chargeTasks 43 = .ok (.iload_n 2, 1) := by decide +kernel
theorem dX0_chargeTasks_44 : decode cX0_chargeTasks 44 = .ok (.iaload, 1) := by decide +kernel
theorem dX0_chargeTasks_45 : decode cX0_chargeTasks 45 = .ok (.invokestatic 210, 3) := by decide +kernel
theorem dX0_chargeTasks_48 : decode cX0_chargeTasks 48 = .ok (.i2l, 1) := by decide +kernel
theorem dX0_chargeTasks_49 : decode cX0_chargeTasks 49 = .ok (.ladd, 1) := by decide +kernel
theorem dX0_chargeTasks_50 : decode cX0_chargeTasks 50 = .ok (.lastore, 1) := by decide +kernel
theorem dX0_chargeTasks_51 : decode cX0_chargeTasks 51 = .ok (.iinc 1 1, 3) := by decide +kernel
theorem dX0_chargeTasks_54 : decode cX0_chargeTasks 54 = .ok (.goto 22, 3) := by decide +kernel
theorem dX0_chargeTasks_57 : decode cX0_chargeTasks 57 = .ok (.aload_n 0, 1) := by decide +kernel
theorem dX0_chargeTasks_58 : decode cX0_chargeTasks 58 = .ok (.getfield 19, 3) := by decide +kernel
theorem dX0_chargeTasks_61 : decode cX0_chargeTasks 61 = .ok (.iload_n 2, 1) := by decide +kernel
theorem dX0_chargeTasks_62 : decode cX0_chargeTasks 62 = .ok (.iaload, 1) := by decide +kernel
theorem dX0_chargeTasks_63 : decode cX0_chargeTasks 63 = .ok (.ifCond .ne 13, 3) := by decide +kernel
theorem dX0_chargeTasks_66 : decode cX0_chargeTasks 66 = .ok (.aload_n 0, 1) := by decide +kernel
theorem dX0_chargeTasks_67 : decode cX0_chargeTasks 67 = .ok (.getfield 29, 3) := by decide +kernel
theorem dX0_chargeTasks_70 : decode cX0_chargeTasks 70 = .ok (.iload_n 2, 1) := by decide +kernel
theorem dX0_chargeTasks_71 : decode cX0_chargeTasks 71 = .ok (.dup2, 1) := by decide +kernel
theorem dX0_chargeTasks_72 : decode cX0_chargeTasks 72 = .ok (.iaload, 1) := by decide +kernel
theorem dX0_chargeTasks_73 : decode cX0_chargeTasks 73 = .ok (.iconst 1, 1) := by decide +kernel
theorem dX0_chargeTasks_74 : decode cX0_chargeTasks 74 = .ok (.iadd, 1) := by decide +kernel
theorem dX0_chargeTasks_75 : decode cX0_chargeTasks 75 = .ok (.iastore, 1) := by decide +kernel
theorem dX0_chargeTasks_76 : decode cX0_chargeTasks 76 = .ok (.iinc 2 1, 3) := by decide +kernel
theorem dX0_chargeTasks_79 : decode cX0_chargeTasks 79 = .ok (.goto (-75), 3) := by decide +kernel
theorem dX0_chargeTasks_82 : decode cX0_chargeTasks 82 = .ok (.iload_n 1, 1) := by decide +kernel
theorem dX0_chargeTasks_83 : decode cX0_chargeTasks 83 = .ok (.ireturn, 1) := by decide +kernel
theorem dX0_costOfTick_0 : decode cX0_costOfTick 0 = .ok (.iload_n 0, 1) := by decide +kernel
theorem dX0_costOfTick_1 : decode cX0_costOfTick 1 = .ok (.iconst 1, 1) := by decide +kernel
theorem dX0_costOfTick_2 : decode cX0_costOfTick 2 = .ok (.if_icmp .ge 9, 3) := by decide +kernel
theorem dX0_costOfTick_5 : decode cX0_costOfTick 5 = .ok (.sipush 5040, 3) := by decide +kernel
theorem dX0_costOfTick_8 : decode cX0_costOfTick 8 = .ok (.goto 8, 3) := by decide +kernel
theorem dX0_costOfTick_11 : decode cX0_costOfTick 11 = .ok (.sipush 5040, 3) := by decide +kernel
theorem dX0_costOfTick_14 : decode cX0_costOfTick 14 = .ok (.iload_n 0, 1) := by decide +kernel
theorem dX0_costOfTick_15 : decode cX0_costOfTick 15 = .ok (.idiv, 1) := by decide +kernel
theorem dX0_costOfTick_16 : decode cX0_costOfTick 16 = .ok (.ireturn, 1) := by decide +kernel
theorem dX0_countIdleCpus_0 : decode cX0_countIdleCpus 0 = .ok (.iconst 0, 1) := by decide +kernel
theorem dX0_countIdleCpus_1 : decode cX0_countIdleCpus 1 = .ok (.istore_n 1, 1) := by decide +kernel
theorem dX0_countIdleCpus_2 : decode cX0_countIdleCpus 2 = .ok (.iload_n 1, 1) := by decide +kernel
theorem dX0_countIdleCpus_3 : decode cX0_countIdleCpus 3 = .ok (.aload_n 0, 1) := by decide +kernel
theorem dX0_countIdleCpus_4 : decode cX0_countIdleCpus 4 = .ok (.invokevirtual 147, 3) := by decide +kernel
theorem dX0_countIdleCpus_7 : decode cX0_countIdleCpus 7 = .ok (.if_icmp .ge 54, 3) := by decide +kernel
theorem dX0_countIdleCpus_10 : decode cX0_countIdleCpus 10 = .ok (.aload_n 0, 1) := by decide +kernel
theorem dX0_countIdleCpus_11 : decode cX0_countIdleCpus 11 = .ok (.getfield 35, 3) := by decide +kernel
theorem dX0_countIdleCpus_14 : decode cX0_countIdleCpus 14 = .ok (.iload_n 1, 1) := by decide +kernel
theorem dX0_countIdleCpus_15 : decode cX0_countIdleCpus 15 = .ok (.iaload, 1) := by decide +kernel
theorem dX0_countIdleCpus_16 : decode cX0_countIdleCpus 16 = .ok (.iconst (-1), 1) := by decide +kernel
theorem dX0_countIdleCpus_17 : decode cX0_countIdleCpus 17 = .ok (.if_icmp .eq 6, 3) := by decide +kernel
theorem dX0_countIdleCpus_20 : decode cX0_countIdleCpus 20 = .ok (.goto 35, 3) := by decide +kernel
theorem dX0_countIdleCpus_23 : decode cX0_countIdleCpus 23 = .ok (.aload_n 0, 1) := by decide +kernel
theorem dX0_countIdleCpus_24 : decode cX0_countIdleCpus 24 = .ok (.getfield 38, 3) := by decide +kernel
theorem dX0_countIdleCpus_27 : decode cX0_countIdleCpus 27 = .ok (.iload_n 1, 1) := by decide +kernel
theorem dX0_countIdleCpus_28 : decode cX0_countIdleCpus 28 = .ok (.baload, 1) := by decide +kernel
theorem dX0_countIdleCpus_29 : decode cX0_countIdleCpus 29 = .ok (.ifCond .eq 16, 3) := by decide +kernel
theorem dX0_countIdleCpus_32 : decode cX0_countIdleCpus 32 = .ok (.aload_n 0, 1) := by decide +kernel
theorem dX0_countIdleCpus_33 : decode cX0_countIdleCpus 33 = .ok (.getfield 45, 3) := by decide +kernel
theorem dX0_countIdleCpus_36 : decode cX0_countIdleCpus 36 = .ok (.iload_n 1, 1) := by decide +kernel
theorem dX0_countIdleCpus_37 : decode cX0_countIdleCpus 37 = .ok (.dup2, 1) := by decide +kernel
theorem dX0_countIdleCpus_38 : decode cX0_countIdleCpus 38 = .ok (.iaload, 1) := by decide +kernel
theorem dX0_countIdleCpus_39 : decode cX0_countIdleCpus 39 = .ok (.iconst 1, 1) := by decide +kernel
theorem dX0_countIdleCpus_40 : decode cX0_countIdleCpus 40 = .ok (.iadd, 1) := by decide +kernel
theorem dX0_countIdleCpus_41 : decode cX0_countIdleCpus 41 = .ok (.iastore, 1) := by decide +kernel
theorem dX0_countIdleCpus_42 : decode cX0_countIdleCpus 42 = .ok (.goto 13, 3) := by decide +kernel
theorem dX0_countIdleCpus_45 : decode cX0_countIdleCpus 45 = .ok (.aload_n 0, 1) := by decide +kernel
theorem dX0_countIdleCpus_46 : decode cX0_countIdleCpus 46 = .ok (.getfield 42, 3) := by decide +kernel
theorem dX0_countIdleCpus_49 : decode cX0_countIdleCpus 49 = .ok (.iload_n 1, 1) := by decide +kernel
theorem dX0_countIdleCpus_50 : decode cX0_countIdleCpus 50 = .ok (.dup2, 1) := by decide +kernel
theorem dX0_countIdleCpus_51 : decode cX0_countIdleCpus 51 = .ok (.iaload, 1) := by decide +kernel
theorem dX0_countIdleCpus_52 : decode cX0_countIdleCpus 52 = .ok (.iconst 1, 1) := by decide +kernel
theorem dX0_countIdleCpus_53 : decode cX0_countIdleCpus 53 = .ok (.iadd, 1) := by decide +kernel
theorem dX0_countIdleCpus_54 : decode cX0_countIdleCpus 54 = .ok (.iastore, 1) := by decide +kernel
theorem dX0_countIdleCpus_55 : decode cX0_countIdleCpus 55 = .ok (.iinc 1 1, 3) := by decide +kernel
theorem dX0_countIdleCpus_58 : decode cX0_countIdleCpus 58 = .ok (.goto (-56), 3) := by decide +kernel
theorem dX0_countIdleCpus_61 : decode cX0_countIdleCpus 61 = .ok (.return_, 1) := by decide +kernel
theorem dX0_raiseBases_0 : decode cX0_raiseBases 0 = .ok (.iconst 0, 1) := by decide +kernel
theorem dX0_raiseBases_1 : decode cX0_raiseBases 1 = .ok (.istore_n 1, 1) := by decide +kernel
theorem dX0_raiseBases_2 : decode cX0_raiseBases 2 = .ok (.iload_n 1, 1) := by decide +kernel
theorem dX0_raiseBases_3 : decode cX0_raiseBases 3 = .ok (.aload_n 0, 1) := by decide +kernel
theorem dX0_raiseBases_4 : decode cX0_raiseBases 4 = .ok (.invokevirtual 147, 3) := by decide +kernel
theorem dX0_raiseBases_7 : decode cX0_raiseBases 7 = .ok (.if_icmp .ge 41, 3) := by decide +kernel
theorem dX0_raiseBases_10 : decode cX0_raiseBases 10 = .ok (.aload_n 0, 1) := by decide +kernel
theorem dX0_raiseBases_11 : decode cX0_raiseBases 11 = .ok (.iload_n 1, 1) := by decide +kernel
theorem dX0_raiseBases_12 : decode cX0_raiseBases 12 = .ok (.invokevirtual 213, 3) := by decide +kernel
theorem dX0_raiseBases_15 : decode cX0_raiseBases 15 = .ok (.istore_n 2, 1) := by decide +kernel
theorem dX0_raiseBases_16 : decode cX0_raiseBases 16 = .ok (.iload_n 2, 1) := by decide +kernel
theorem dX0_raiseBases_17 : decode cX0_raiseBases 17 = .ok (.iconst (-1), 1) := by decide +kernel
theorem dX0_raiseBases_18 : decode cX0_raiseBases 18 = .ok (.if_icmp .eq 24, 3) := by decide +kernel
theorem dX0_raiseBases_21 : decode cX0_raiseBases 21 = .ok (.aload_n 0, 1) := by decide +kernel
theorem dX0_raiseBases_22 : decode cX0_raiseBases 22 = .ok (.getfield 32, 3) := by decide +kernel
theorem dX0_raiseBases_25 : decode cX0_raiseBases 25 = .ok (.iload_n 1, 1) := by decide +kernel
theorem dX0_raiseBases_26 : decode cX0_raiseBases 26 = .ok (.aload_n 0, 1) := by decide +kernel
theorem dX0_raiseBases_27 : decode cX0_raiseBases 27 = .ok (.getfield 32, 3) := by decide +kernel
theorem dX0_raiseBases_30 : decode cX0_raiseBases 30 = .ok (.iload_n 1, 1) := by decide +kernel
theorem dX0_raiseBases_31 : decode cX0_raiseBases 31 = .ok (.laload, 1) := by decide +kernel
theorem dX0_raiseBases_32 : decode cX0_raiseBases 32 = .ok (.aload_n 0, 1) := by decide +kernel
theorem dX0_raiseBases_33 : decode cX0_raiseBases 33 = .ok (.getfield 22, 3) := by decide +kernel
theorem dX0_raiseBases_36 : decode cX0_raiseBases 36 = .ok (.iload_n 2, 1) := by decide +kernel
theorem dX0_raiseBases_37 : decode cX0_raiseBases 37 = .ok (.laload, 1) := by decide +kernel
theorem dX0_raiseBases_38 : decode cX0_raiseBases 38 = .ok (.invokestatic 170, 3) := by decide +kernel
theorem dX0_raiseBases_41 : decode cX0_raiseBases 41 = .ok (.lastore, 1) := by decide +kernel
theorem dX0_raiseBases_42 : decode cX0_raiseBases 42 = .ok (.iinc 1 1, 3) := by decide +kernel
theorem dX0_raiseBases_45 : decode cX0_raiseBases 45 = .ok (.goto (-43), 3) := by decide +kernel
theorem dX0_raiseBases_48 : decode cX0_raiseBases 48 = .ok (.return_, 1) := by decide +kernel
theorem dX0_findLeastTime_0 : decode cX0_findLeastTime 0 = .ok (.iconst (-1), 1) := by decide +kernel
theorem dX0_findLeastTime_1 : decode cX0_findLeastTime 1 = .ok (.istore_n 2, 1) := by decide +kernel
theorem dX0_findLeastTime_2 : decode cX0_findLeastTime 2 = .ok (.iconst 0, 1) := by decide +kernel
theorem dX0_findLeastTime_3 : decode cX0_findLeastTime 3 = .ok (.istore_n 3, 1) := by decide +kernel
theorem dX0_findLeastTime_4 : decode cX0_findLeastTime 4 = .ok (.iload_n 3, 1) := by decide +kernel
theorem dX0_findLeastTime_5 : decode cX0_findLeastTime 5 = .ok (.aload_n 0, 1) := by decide +kernel
theorem dX0_findLeastTime_6 : decode cX0_findLeastTime 6 = .ok (.getfield 85, 3) := by decide +kernel
theorem dX0_findLeastTime_9 : decode cX0_findLeastTime 9 = .ok (.if_icmp .ge 41, 3) := by decide +kernel
theorem dX0_findLeastTime_12 : decode cX0_findLeastTime 12 = .ok (.aload_n 0, 1) := by decide +kernel
theorem dX0_findLeastTime_13 : decode cX0_findLeastTime 13 = .ok (.iload_n 3, 1) := by decide +kernel
theorem dX0_findLeastTime_14 : decode cX0_findLeastTime 14 = .ok (.iload_n 1, 1) := by decide +kernel
theorem dX0_findLeastTime_15 : decode cX0_findLeastTime 15 = .ok (.invokevirtual 130, 3) := by decide +kernel
theorem dX0_findLeastTime_18 : decode cX0_findLeastTime 18 = .ok (.ifCond .eq 26, 3) := by decide +kernel
theorem dX0_findLeastTime_21 : decode cX0_findLeastTime 21 = .ok (.iload_n 2, 1) := by decide +kernel
theorem dX0_findLeastTime_22 : decode cX0_findLeastTime 22 = .ok (.iconst (-1), 1) := by decide +kernel
theorem dX0_findLeastTime_23 : decode cX0_findLeastTime 23 = .ok (.if_icmp .eq 19, 3) := by decide +kernel
theorem dX0_findLeastTime_26 : decode cX0_findLeastTime 26 = .ok (.aload_n 0, 1) := by decide +kernel
theorem dX0_findLeastTime_27 : decode cX0_findLeastTime 27 = .ok (.getfield 22, 3) := by decide +kernel
theorem dX0_findLeastTime_30 : decode cX0_findLeastTime 30 = .ok (.iload_n 3, 1) := by decide +kernel
theorem dX0_findLeastTime_31 : decode cX0_findLeastTime 31 = .ok (.laload, 1) := by decide +kernel
theorem dX0_findLeastTime_32 : decode cX0_findLeastTime 32 = .ok (.aload_n 0, 1) := by decide +kernel
theorem dX0_findLeastTime_33 : decode cX0_findLeastTime 33 = .ok (.getfield 22, 3) := by decide +kernel
theorem dX0_findLeastTime_36 : decode cX0_findLeastTime 36 = .ok (.iload_n 2, 1) := by decide +kernel
theorem dX0_findLeastTime_37 : decode cX0_findLeastTime 37 = .ok (.laload, 1) := by decide +kernel
theorem dX0_findLeastTime_38 : decode cX0_findLeastTime 38 = .ok (.lcmp, 1) := by decide +kernel
theorem dX0_findLeastTime_39 : decode cX0_findLeastTime 39 = .ok (.ifCond .ge 5, 3) := by decide +kernel
theorem dX0_findLeastTime_42 : decode cX0_findLeastTime 42 = .ok (.iload_n 3, 1) := by decide +kernel
theorem dX0_findLeastTime_43 : decode cX0_findLeastTime 43 = .ok (.istore_n 2, 1) := by decide +kernel
theorem dX0_findLeastTime_44 : decode cX0_findLeastTime 44 = .ok (.iinc 3 1, 3) := by decide +kernel
theorem dX0_findLeastTime_47 : decode cX0_findLeastTime 47 = .ok (.goto (-43), 3) := by decide +kernel
theorem dX0_findLeastTime_50 : decode cX0_findLeastTime 50 = .ok (.iload_n 2, 1) := by decide +kernel
theorem dX0_findLeastTime_51 : decode cX0_findLeastTime 51 = .ok (.ireturn, 1) := by decide +kernel
end
section
theorem dX1_init_0 : decode cX1_init 0 = .ok (.aload_n 0, 1) := by decide +kernel
theorem dX1_init_1 : decode cX1_init 1 = .ok (.invokespecial 1, 3) := by decide +kernel
theorem dX1_init_4 : decode cX1_init 4 = .ok (.aload_n 0, 1) := by decide +kernel
theorem dX1_init_5 : decode cX1_init 5 = .ok (.iconst 2, 1) := by decide +kernel
theorem dX1_init_6 : decode cX1_init 6 = .ok (.putfield 7, 3) := by decide +kernel
theorem dX1_init_9 : decode cX1_init 9 = .ok (.aload_n 0, 1) := by decide +kernel
theorem dX1_init_10 : decode cX1_init 10 = .ok (.bipush 8, 2) := by decide +kernel
theorem dX1_init_12 : decode cX1_init 12 = .ok (.newarray .long, 2) := by decide +kernel
theorem dX1_init_14 : decode cX1_init 14 = .ok (.putfield 13, 3) := by decide +kernel
theorem dX1_init_17 : decode cX1_init 17 = .ok (.aload_n 0, 1) := by decide +kernel
theorem dX1_init_18 : decode cX1_init 18 = .ok (.bipush 8, 2) := by decide +kernel
theorem dX1_init_20 : decode cX1_init 20 = .ok (.newarray .int, 2) := by decide +kernel
theorem dX1_init_22 : decode cX1_init 22 = .ok (.putfield 17, 3) := by decide +kernel
theorem dX1_init_25 : decode cX1_init 25 = .ok (.aload_n 0, 1) := by decide +kernel
theorem dX1_init_26 : decode cX1_init 26 = .ok (.bipush 8, 2) := by decide +kernel
theorem dX1_init_28 : decode cX1_init 28 = .ok (.newarray .boolean, 2) := by decide +kernel
theorem dX1_init_30 : decode cX1_init 30 = .ok (.putfield 21, 3) := by decide +kernel
theorem dX1_init_33 : decode cX1_init 33 = .ok (.aload_n 0, 1) := by decide +kernel
theorem dX1_init_34 : decode cX1_init 34 = .ok (.bipush 8, 2) := by decide +kernel
theorem dX1_init_36 : decode cX1_init 36 = .ok (.newarray .int, 2) := by decide +kernel
theorem dX1_init_38 : decode cX1_init 38 = .ok (.putfield 25, 3) := by decide +kernel
theorem dX1_init_41 : decode cX1_init 41 = .ok (.aload_n 0, 1) := by decide +kernel
theorem dX1_init_42 : decode cX1_init 42 = .ok (.bipush 8, 2) := by decide +kernel
theorem dX1_init_44 : decode cX1_init 44 = .ok (.newarray .int, 2) := by decide +kernel
theorem dX1_init_46 : decode cX1_init 46 = .ok (.putfield 28, 3) := by decide +kernel
theorem dX1_init_49 : decode cX1_init 49 = .ok (.aload_n 0, 1) := by decide +kernel
theorem dX1_init_50 : decode cX1_init 50 = .ok (.iconst 4, 1) := by decide +kernel
theorem dX1_init_51 : decode cX1_init 51 = .ok (.newarray .int, 2) := by decide +kernel
theorem dX1_init_53 : decode cX1_init 53 = .ok (.putfield 31, 3) := by decide +kernel
theorem dX1_init_56 : decode cX1_init 56 = .ok (.aload_n 0, 1) := by decide +kernel
theorem dX1_init_57 : decode cX1_init 57 = .ok (.bipush 16, 2) := by decide +kernel
theorem dX1_init_59 : decode cX1_init 59 = .ok (.newarray .int, 2) := by decide +kernel
theorem dX1_init_61 : decode cX1_init 61 = .ok (.putfield 34, 3) := by decide +kernel
theorem dX1_init_64 : decode cX1_init 64 = .ok (.aload_n 0, 1) := by decide +kernel
theorem dX1_init_65 : decode cX1_init 65 = .ok (.bipush 16, 2) := by decide +kernel
theorem dX1_init_67 : decode cX1_init 67 = .ok (.newarray .int, 2) := by decide +kernel
theorem dX1_init_69 : decode cX1_init 69 = .ok (.putfield 37, 3) := by decide +kernel
theorem dX1_init_72 : decode cX1_init 72 = .ok (.aload_n 0, 1) := by decide +kernel
theorem dX1_init_73 : decode cX1_init 73 = .ok (.bipush 16, 2) := by decide +kernel
theorem dX1_init_75 : decode cX1_init 75 = .ok (.newarray .int, 2) := by decide +kernel
theorem dX1_init_77 : decode cX1_init 77 = .ok (.putfield 40, 3) := by decide +kernel
theorem dX1_init_80 : decode cX1_init 80 = .ok (.aload_n 0, 1) := by decide +kernel
theorem dX1_init_81 : decode cX1_init 81 = .ok (.bipush 16, 2) := by decide +kernel
theorem dX1_init_83 : decode cX1_init 83 = .ok (.newarray .int, 2) := by decide +kernel
theorem dX1_init_85 : decode cX1_init 85 = .ok (.putfield 43, 3) := by decide +kernel
theorem dX1_init_88 : decode cX1_init 88 = .ok (.aload_n 0, 1) := by decide +kernel
theorem dX1_init_89 : decode cX1_init 89 = .ok (.bipush 16, 2) := by decide +kernel
theorem dX1_init_91 : decode cX1_init 91 = .ok (.newarray .long, 2) := by decide +kernel
theorem dX1_init_93 : decode cX1_init 93 = .ok (.putfield 46, 3) := by decide +kernel
theorem dX1_init_96 : decode cX1_init 96 = .ok (.aload_n 0, 1) := by decide +kernel
theorem dX1_init_97 : decode cX1_init 97 = .ok (.bipush 16, 2) := by decide +kernel
theorem dX1_init_99 : decode cX1_init 99 = .ok (.newarray .int, 2) := by decide +kernel
theorem dX1_init_101 : decode cX1_init 101 = .ok (.putfield 49, 3) := by decide +kernel
theorem dX1_init_104 : decode cX1_init 104 = .ok (.aload_n 0, 1) := by decide +kernel
theorem dX1_init_105 : decode cX1_init 105 = .ok (.bipush 16, 2) := by decide +kernel
theorem dX1_init_107 : decode cX1_init 107 = .ok (.newarray .int, 2) := by decide +kernel
theorem dX1_init_109 : decode cX1_init 109 = .ok (.putfield 52, 3) := by decide +kernel
theorem dX1_init_112 : decode cX1_init 112 = .ok (.aload_n 0, 1) := by decide +kernel
theorem dX1_init_113 : decode cX1_init 113 = .ok (.iconst 2, 1) := by decide +kernel
theorem dX1_init_114 : decode cX1_init 114 = .ok (.invokevirtual 55, 3) := by decide +kernel
theorem dX1_init_117 : decode cX1_init 117 = .ok (.return_, 1) := by decide +kernel
theorem dX1_thrown_0 : decode cX1_thrown 0 = .ok (.aload_n 0, 1) := by decide +kernel
theorem dX1_thrown_1 : decode cX1_thrown 1 = .ok (.getfield 59, 3) := by decide +kernel
theorem dX1_thrown_4 : decode cX1_thrown 4 = .ok (.ireturn, 1) := by decide +kernel
theorem dX1_in_0 : decode cX1_in 0 = .ok (.lload_n 0, 1) := by decide +kernel
theorem dX1_in_1 : decode cX1_in 1 = .ok (.lload_n 2, 1) := by decide +kernel
theorem dX1_in_2 : decode cX1_in 2 = .ok (.lcmp, 1) := by decide +kernel
theorem dX1_in_3 : decode cX1_in 3 = .ok (.ifCond .lt 14, 3) := by decide +kernel
theorem dX1_in_6 : decode cX1_in 6 = .ok (.lload_n 0, 1) := by decide +kernel
theorem dX1_in_7 : decode cX1_in 7 = .ok (.lload 4, 2) := by decide +kernel
theorem dX1_in_9 : decode cX1_in 9 = .ok (.lcmp, 1) := by decide +kernel
theorem dX1_in_10 : decode cX1_in 10 = .ok (.ifCond .gt 7, 3) := by decide +kernel
theorem dX1_in_13 : decode cX1_in 13 = .ok (.iconst 1, 1) := by decide +kernel
theorem dX1_in_14 : decode cX1_in 14 = .ok (.goto 4, 3) := by decide +kernel
theorem dX1_in_17 : decode cX1_in 17 = .ok (.iconst 0, 1) := by decide +kernel
theorem dX1_in_18 : decode cX1_in 18 = .ok (.ireturn, 1) := by decide +kernel
theorem dX1_begins_0 : decode cX1_begins 0 = .ok (.aload_n 0, 1) := by decide +kernel
theorem dX1_begins_1 : decode cX1_begins 1 = .ok (.iload_n 1, 1) := by decide +kernel
theorem dX1_begins_2 : decode cX1_begins 2 = .ok (.putfield 7, 3) := by decide +kernel
theorem dX1_begins_5 : decode cX1_begins 5 = .ok (.aload_n 0, 1) := by decide +kernel
theorem dX1_begins_6 : decode cX1_begins 6 = .ok (.iconst 0, 1) := by decide +kernel
theorem dX1_begins_7 : decode cX1_begins 7 = .ok (.putfield 62, 3) := by decide +kernel
theorem dX1_begins_10 : decode cX1_begins 10 = .ok (.aload_n 0, 1) := by decide +kernel
theorem dX1_begins_11 : decode cX1_begins 11 = .ok (.iconst 0, 1) := by decide +kernel
theorem dX1_begins_12 : decode cX1_begins 12 = .ok (.putfield 66, 3) := by decide +kernel
theorem dX1_begins_15 : decode cX1_begins 15 = .ok (.aload_n 0, 1) := by decide +kernel
theorem dX1_begins_16 : decode cX1_begins 16 = .ok (.iconst 0, 1) := by decide +kernel
theorem dX1_begins_17 : decode cX1_begins 17 = .ok (.putfield 69, 3) := by decide +kernel
theorem dX1_begins_20 : decode cX1_begins 20 = .ok (.iconst 0, 1) := by decide +kernel
theorem dX1_begins_21 : decode cX1_begins 21 = .ok (.istore_n 2, 1) := by decide +kernel
theorem dX1_begins_22 : decode cX1_begins 22 = .ok (.iload_n 2, 1) := by decide +kernel
theorem dX1_begins_23 : decode cX1_begins 23 = .ok (.bipush 8, 2) := by decide +kernel
theorem dX1_begins_25 : decode cX1_begins 25 = .ok (.if_icmp .ge 44, 3) := by decide +kernel
theorem dX1_begins_28 : decode cX1_begins 28 = .ok (.aload_n 0, 1) := by decide +kernel
theorem dX1_begins_29 : decode cX1_begins 29 = .ok (.getfield 13, 3) := by decide +kernel
theorem dX1_begins_32 : decode cX1_begins 32 = .ok (.iload_n 2, 1) := by decide +kernel
theorem dX1_begins_33 : decode cX1_begins 33 = .ok (.lconst 0, 1) := by decide +kernel
theorem dX1_begins_34 : decode cX1_begins 34 = .ok (.lastore, 1) := by decide +kernel
theorem dX1_begins_35 : decode cX1_begins 35 = .ok (.aload_n 0, 1) := by decide +kernel
theorem dX1_begins_36 : decode cX1_begins 36 = .ok (.getfield 17, 3) := by decide +kernel
theorem dX1_begins_39 : decode cX1_begins 39 = .ok (.iload_n 2, 1) := by decide +kernel
theorem dX1_begins_40 : decode cX1_begins 40 = .ok (.iconst (-1), 1) := by decide +kernel
theorem dX1_begins_41 : decode cX1_begins 41 = .ok (.iastore, 1) := by decide +kernel
theorem dX1_begins_42 : decode cX1_begins 42 = .ok (.aload_n 0, 1) := by decide +kernel
theorem dX1_begins_43 : decode cX1_begins 43 = .ok (.getfield 21, 3) := by decide +kernel
theorem dX1_begins_46 : decode cX1_begins 46 = .ok (.iload_n 2, 1) := by decide +kernel
theorem dX1_begins_47 : decode cX1_begins 47 = .ok (.iconst 0, 1) := by decide +kernel
theorem dX1_begins_48 : decode cX1_begins 48 = .ok (.bastore, 1) := by decide +kernel
theorem dX1_begins_49 : decode cX1_begins 49 = .ok (.aload_n 0, 1) := by decide +kernel
theorem dX1_begins_50 : decode cX1_begins 50 = .ok (.getfield 25, 3) := by decide +kernel
theorem dX1_begins_53 : decode cX1_begins 53 = .ok (.iload_n 2, 1) := by decide +kernel
theorem dX1_begins_54 : decode cX1_begins 54 = .ok (.iconst 0, 1) := by decide +kernel
theorem dX1_begins_55 : decode cX1_begins 55 = .ok (.iastore, 1) := by decide +kernel
theorem dX1_begins_56 : decode cX1_begins 56 = .ok (.aload_n 0, 1) := by decide +kernel
theorem dX1_begins_57 : decode cX1_begins 57 = .ok (.getfield 28, 3) := by decide +kernel
theorem dX1_begins_60 : decode cX1_begins 60 = .ok (.iload_n 2, 1) := by decide +kernel
theorem dX1_begins_61 : decode cX1_begins 61 = .ok (.iconst 0, 1) := by decide +kernel
theorem dX1_begins_62 : decode cX1_begins 62 = .ok (.iastore, 1) := by decide +kernel
theorem dX1_begins_63 : decode cX1_begins 63 = .ok (.iinc 2 1, 3) := by decide +kernel
theorem dX1_begins_66 : decode cX1_begins 66 = .ok (.goto (-44), 3) := by decide +kernel
theorem dX1_begins_69 : decode cX1_begins 69 = .ok (.iconst 0, 1) := by decide +kernel
theorem dX1_begins_70 : decode cX1_begins 70 = .ok (.istore_n 2, 1) := by decide +kernel
theorem dX1_begins_71 : decode cX1_begins 71 = .ok (.iload_n 2, 1) := by decide +kernel
theorem dX1_begins_72 : decode cX1_begins 72 = .ok (.iconst 4, 1) := by decide +kernel
theorem dX1_begins_73 : decode cX1_begins 73 = .ok (.if_icmp .ge 16, 3) := by decide +kernel
theorem dX1_begins_76 : decode cX1_begins 76 = .ok (.aload_n 0, 1) := by decide +kernel
theorem dX1_begins_77 : decode cX1_begins 77 = .ok (.getfield 31, 3) := by decide +kernel
theorem dX1_begins_80 : decode cX1_begins 80 = .ok (.iload_n 2, 1) := by decide +kernel
theorem dX1_begins_81 : decode cX1_begins 81 = .ok (.iconst (-1), 1) := by decide +kernel
theorem dX1_begins_82 : decode cX1_begins 82 = .ok (.iastore, 1) := by decide +kernel
theorem dX1_begins_83 : decode cX1_begins 83 = .ok (.iinc 2 1, 3) := by decide +kernel
theorem dX1_begins_86 : decode cX1_begins 86 = .ok (.goto (-15), 3) := by decide +kernel
theorem dX1_begins_89 : decode cX1_begins 89 = .ok (.return_, 1) := by decide +kernel
theorem dX1_isRefused_0 : decode cX1_isRefused 0 = .ok (.aload_n 0, 1) := by decide +kernel
theorem dX1_isRefused_1 : decode cX1_isRefused 1 = .ok (.iload_n 1, 1) := by decide +kernel
theorem dX1_isRefused_2 : decode cX1_isRefused 2 = .ok (.ifCond .eq 7, 3) := by decide +kernel
theorem dX1_isRefused_5 : decode cX1_isRefused 5 = .ok (.iconst 1, 1) := by decide +kernel
theorem dX1_isRefused_6 : decode cX1_isRefused 6 = .ok (.goto 12, 3) := by decide +kernel
theorem dX1_isRefused_9 : decode cX1_isRefused 9 = .ok (.iload_n 2, 1) := by decide +kernel
theorem dX1_isRefused_10 : decode cX1_isRefused 10 = .ok (.ifCond .eq 7, 3) := by decide +kernel
theorem dX1_isRefused_13 : decode cX1_isRefused 13 = .ok (.iconst 2, 1) := by decide +kernel
theorem dX1_isRefused_14 : decode cX1_isRefused 14 = .ok (.goto 4, 3) := by decide +kernel
theorem dX1_isRefused_17 : decode cX1_isRefused 17 = .ok (.iconst 0, 1) := by decide +kernel
theorem dX1_isRefused_18 : decode cX1_isRefused 18 = .ok (.putfield 59, 3) := by decide +kernel
theorem dX1_isRefused_21 : decode cX1_isRefused 21 = .ok (.aload_n 0, 1) := by decide +kernel
theorem dX1_isRefused_22 : decode cX1_isRefused 22 = .ok (.getfield 59, 3) := by decide +kernel
theorem dX1_isRefused_25 : decode cX1_isRefused 25 = .ok (.ifCond .le 7, 3) := by decide +kernel
theorem dX1_isRefused_28 : decode cX1_isRefused 28 = .ok (.iconst 1, 1) := by decide +kernel
theorem dX1_isRefused_29 : decode cX1_isRefused 29 = .ok (.goto 4, 3) := by decide +kernel
theorem dX1_isRefused_32 : decode cX1_isRefused 32 = .ok (.iconst 0, 1) := by decide +kernel
theorem dX1_isRefused_33 : decode cX1_isRefused 33 = .ok (.ireturn, 1) := by decide +kernel
theorem dX1_noTask_0 : decode cX1_noTask 0 = .ok (.iload_n 1, 1) := by decide +kernel
theorem dX1_noTask_1 : decode cX1_noTask 1 = .ok (.i2l, 1) := by decide +kernel
theorem dX1_noTask_2 : decode cX1_noTask 2 = .ok (.lconst 0, 1) := by decide +kernel
theorem dX1_noTask_3 : decode cX1_noTask 3 = .ok (.aload_n 0, 1) := by decide +kernel
theorem dX1_noTask_4 : decode cX1_noTask 4 = .ok (.getfield 69, 3) := by decide +kernel
theorem dX1_noTask_7 : decode cX1_noTask 7 = .ok (.iconst 1, 1) := by decide +kernel
theorem dX1_noTask_8 : decode cX1_noTask 8 = .ok (.isub, 1) := by decide +kernel
theorem dX1_noTask_9 : decode cX1_noTask 9 = .ok (.i2l, 1) := by decide +kernel
theorem dX1_noTask_10 : decode cX1_noTask 10 = .ok (.invokestatic 72, 3) := by decide +kernel
theorem dX1_noTask_13 : decode cX1_noTask 13 = .ok (.ifCond .ne 7, 3) := by decide +kernel
theorem dX1_noTask_16 : decode cX1_noTask 16 = .ok (.iconst 1, 1) := by decide +kernel
theorem dX1_noTask_17 : decode cX1_noTask 17 = .ok (.goto 4, 3) := by decide +kernel
theorem dX1_noTask_20 : decode cX1_noTask 20 = .ok (.iconst 0, 1) := by decide +kernel
theorem dX1_noTask_21 : decode cX1_noTask 21 = .ok (.ireturn, 1) := by decide +kernel
theorem dX1_noCpu_0 : decode cX1_noCpu 0 = .ok (.iload_n 1, 1) := by decide +kernel
theorem dX1_noCpu_1 : decode cX1_noCpu 1 = .ok (.i2l, 1) := by decide +kernel
theorem dX1_noCpu_2 : decode cX1_noCpu 2 = .ok (.lconst 0, 1) := by decide +kernel
theorem dX1_noCpu_3 : decode cX1_noCpu 3 = .ok (.iconst 2, 1) := by decide +kernel
theorem dX1_noCpu_4 : decode cX1_noCpu 4 = .ok (.aload_n 0, 1) := by decide +kernel
theorem dX1_noCpu_5 : decode cX1_noCpu 5 = .ok (.getfield 7, 3) := by decide +kernel
theorem dX1_noCpu_8 : decode cX1_noCpu 8 = .ok (.imul, 1) := by decide +kernel
theorem dX1_noCpu_9 : decode cX1_noCpu 9 = .ok (.iconst 1, 1) := by decide +kernel
theorem dX1_noCpu_10 : decode cX1_noCpu 10 = .ok (.isub, 1) := by decide +kernel
theorem dX1_noCpu_11 : decode cX1_noCpu 11 = .ok (.i2l, 1) := by decide +kernel
theorem dX1_noCpu_12 : decode cX1_noCpu 12 = .ok (.invokestatic 72, 3) := by decide +kernel
theorem dX1_noCpu_15 : decode cX1_noCpu 15 = .ok (.ifCond .ne 7, 3) := by decide +kernel
theorem dX1_noCpu_18 : decode cX1_noCpu 18 = .ok (.iconst 1, 1) := by decide +kernel
theorem dX1_noCpu_19 : decode cX1_noCpu 19 = .ok (.goto 4, 3) := by decide +kernel
theorem dX1_noCpu_22 : decode cX1_noCpu 22 = .ok (.iconst 0, 1) := by decide +kernel
theorem dX1_noCpu_23 : decode cX1_noCpu 23 = .ok (.ireturn, 1) := by decide +kernel
theorem dX1_noCore_0 : decode cX1_noCore 0 = .ok (.iload_n 1, 1) := by decide +kernel
theorem dX1_noCore_1 : decode cX1_noCore 1 = .ok (.i2l, 1) := by decide +kernel
theorem dX1_noCore_2 : decode cX1_noCore 2 = .ok (.lconst 0, 1) := by decide +kernel
theorem dX1_noCore_3 : decode cX1_noCore 3 = .ok (.aload_n 0, 1) := by decide +kernel
theorem dX1_noCore_4 : decode cX1_noCore 4 = .ok (.getfield 7, 3) := by decide +kernel
theorem dX1_noCore_7 : decode cX1_noCore 7 = .ok (.iconst 1, 1) := by decide +kernel
theorem dX1_noCore_8 : decode cX1_noCore 8 = .ok (.isub, 1) := by decide +kernel
theorem dX1_noCore_9 : decode cX1_noCore 9 = .ok (.i2l, 1) := by decide +kernel
theorem dX1_noCore_10 : decode cX1_noCore 10 = .ok (.invokestatic 72, 3) := by decide +kernel
theorem dX1_noCore_13 : decode cX1_noCore 13 = .ok (.ifCond .ne 7, 3) := by decide +kernel
theorem dX1_noCore_16 : decode cX1_noCore 16 = .ok (.iconst 1, 1) := by decide +kernel
theorem dX1_noCore_17 : decode cX1_noCore 17 = .ok (.goto 4, 3) := by decide +kernel
theorem dX1_noCore_20 : decode cX1_noCore 20 = .ok (.iconst 0, 1) := by decide +kernel
theorem dX1_noCore_21 : decode cX1_noCore 21 = .ok (.ireturn, 1) := by decide +kernel
theorem dX1_reset_0 : decode cX1_reset 0 = .ok (.aload_n 0, 1) := by decide +kernel
theorem dX1_reset_1 : decode cX1_reset 1 = .ok (.iload_n 1, 1) := by decide +kernel
theorem dX1_reset_2 : decode cX1_reset 2 = .ok (.i2l, 1) := by decide +kernel
theorem dX1_reset_3 : decode cX1_reset 3 = .ok (.lconst 1, 1) := by decide +kernel
theorem dX1_reset_4 : decode cX1_reset 4 = .ok (.ldc2_w 76, 3) := by decide +kernel
theorem dX1_reset_7 : decode cX1_reset 7 = .ok (.invokestatic 72, 3) := by decide +kernel
theorem dX1_reset_10 : decode cX1_reset 10 = .ok (.ifCond .ne 7, 3) := by decide +kernel
theorem dX1_reset_13 : decode cX1_reset 13 = .ok (.iconst 1, 1) := by decide +kernel
theorem dX1_reset_14 : decode cX1_reset 14 = .ok (.goto 4, 3) := by decide +kernel
theorem dX1_reset_17 : decode cX1_reset 17 = .ok (.iconst 0, 1) := by decide +kernel
theorem dX1_reset_18 : decode cX1_reset 18 = .ok (.iconst 0, 1) := by decide +kernel
theorem dX1_reset_19 : decode cX1_reset 19 = .ok (.invokevirtual 78, 3) := by decide +kernel
theorem dX1_reset_22 : decode cX1_reset 22 = .ok (.ifCond .eq 5, 3) := by decide +kernel
theorem dX1_reset_25 : decode cX1_reset 25 = .ok (.iconst 0, 1) := by decide +kernel
theorem dX1_reset_26 : decode cX1_reset 26 = .ok (.ireturn, 1) := by decide +kernel
theorem dX1_reset_27 : decode cX1_reset 27 = .ok (.aload_n 0, 1) := by decide +kernel
theorem dX1_reset_28 : decode cX1_reset 28 = .ok (.getfield 7, 3) := by decide +kernel
theorem dX1_reset_31 : decode cX1_reset 31 = .ok (.istore_n 2, 1) := by decide +kernel
theorem dX1_reset_32 : decode cX1_reset 32 = .ok (.aload_n 0, 1) := by decide +kernel
theorem dX1_reset_33 : decode cX1_reset 33 = .ok (.iload_n 1, 1) := by decide +kernel
theorem dX1_reset_34 : decode cX1_reset 34 = .ok (.invokevirtual 55, 3) := by decide +kernel
theorem dX1_reset_37 : decode cX1_reset 37 = .ok (.iload_n 2, 1) := by decide +kernel
theorem dX1_reset_38 : decode cX1_reset 38 = .ok (.ireturn, 1) := by decide +kernel
theorem dX1_setStealing_0 : decode cX1_setStealing 0 = .ok (.aload_n 0, 1) := by decide +kernel
theorem dX1_setStealing_1 : decode cX1_setStealing 1 = .ok (.iconst 0, 1) := by decide +kernel
theorem dX1_setStealing_2 : decode cX1_setStealing 2 = .ok (.putfield 59, 3) := by decide +kernel
theorem dX1_setStealing_5 : decode cX1_setStealing 5 = .ok (.aload_n 0, 1) := by decide +kernel
theorem dX1_setStealing_6 : decode cX1_setStealing 6 = .ok (.getfield 62, 3) := by decide +kernel
theorem dX1_setStealing_9 : decode cX1_setStealing 9 = .ok (.istore_n 2, 1) := by decide +kernel
theorem dX1_setStealing_10 : decode cX1_setStealing 10 = .ok (.aload_n 0, 1) := by decide +kernel
theorem dX1_setStealing_11 : decode cX1_setStealing 11 = .ok (.iload_n 1, 1) := by decide +kernel
theorem dX1_setStealing_12 : decode cX1_setStealing 12 = .ok (.putfield 62, 3) := by decide +kernel
theorem dX1_setStealing_15 : decode cX1_setStealing 15 = .ok (.iload_n 2, 1) := by decide +kernel
theorem dX1_setStealing_16 : decode cX1_setStealing 16 = .ok (.ireturn, 1) := by decide +kernel
theorem dX1_isRunnable_0 : decode cX1_isRunnable 0 = .ok (.aload_n 0, 1) := by decide +kernel
theorem dX1_isRunnable_1 : decode cX1_isRunnable 1 = .ok (.getfield 43, 3) := by decide +kernel
theorem dX1_isRunnable_4 : decode cX1_isRunnable 4 = .ok (.iload_n 1, 1) := by decide +kernel
theorem dX1_isRunnable_5 : decode cX1_isRunnable 5 = .ok (.iaload, 1) := by decide +kernel
theorem dX1_isRunnable_6 : decode cX1_isRunnable 6 = .ok (.ifCond .eq 13, 3) := by decide +kernel
theorem dX1_isRunnable_9 : decode cX1_isRunnable 9 = .ok (.aload_n 0, 1) := by decide +kernel
theorem dX1_isRunnable_10 : decode cX1_isRunnable 10 = .ok (.getfield 43, 3) := by decide +kernel
theorem dX1_isRunnable_13 : decode cX1_isRunnable 13 = .ok (.iload_n 1, 1) := by decide +kernel
theorem dX1_isRunnable_14 : decode cX1_isRunnable 14 = .ok (.iaload, 1) := by decide +kernel
theorem dX1_isRunnable_15 : decode cX1_isRunnable 15 = .ok (.iconst 1, 1) := by decide +kernel
theorem dX1_isRunnable_16 : decode cX1_isRunnable 16 = .ok (.if_icmp .ne 7, 3) := by decide +kernel
theorem dX1_isRunnable_19 : decode cX1_isRunnable 19 = .ok (.iconst 1, 1) := by decide +kernel
theorem dX1_isRunnable_20 : decode cX1_isRunnable 20 = .ok (.goto 4, 3) := by decide +kernel
theorem dX1_isRunnable_23 : decode cX1_isRunnable 23 = .ok (.iconst 0, 1) := by decide +kernel
theorem dX1_isRunnable_24 : decode cX1_isRunnable 24 = .ok (.ireturn, 1) := by decide +kernel
theorem dX1_relative_0 : decode cX1_relative 0 = .ok (.aload_n 0, 1) := by decide +kernel
theorem dX1_relative_1 : decode cX1_relative 1 = .ok (.getfield 46, 3) := by decide +kernel
theorem dX1_relative_4 : decode cX1_relative 4 = .ok (.iload_n 1, 1) := by decide +kernel
theorem dX1_relative_5 : decode cX1_relative 5 = .ok (.laload, 1) := by decide +kernel
theorem dX1_relative_6 : decode cX1_relative 6 = .ok (.aload_n 0, 1) := by decide +kernel
theorem dX1_relative_7 : decode cX1_relative 7 = .ok (.getfield 13, 3) := by decide +kernel
theorem dX1_relative_10 : decode cX1_relative 10 = .ok (.aload_n 0, 1) := by decide +kernel
theorem dX1_relative_11 : decode cX1_relative 11 = .ok (.getfield 34, 3) := by decide +kernel
theorem dX1_relative_14 : decode cX1_relative 14 = .ok (.iload_n 1, 1) := by decide +kernel
theorem dX1_relative_15 : decode cX1_relative 15 = .ok (.iaload, 1) := by decide +kernel
theorem dX1_relative_16 : decode cX1_relative 16 = .ok (.laload, 1) := by decide +kernel
theorem dX1_relative_17 : decode cX1_relative 17 = .ok (.lsub, 1) := by decide +kernel
theorem dX1_relative_18 : decode cX1_relative 18 = .ok (.lreturn, 1) := by decide +kernel
theorem dX1_isAhead_0 : decode cX1_isAhead 0 = .ok (.iload_n 2, 1) := by decide +kernel
theorem dX1_isAhead_1 : decode cX1_isAhead 1 = .ok (.iconst (-1), 1) := by decide +kernel
theorem dX1_isAhead_2 : decode cX1_isAhead 2 = .ok (.if_icmp .ne 5, 3) := by decide +kernel
theorem dX1_isAhead_5 : decode cX1_isAhead 5 = .ok (.iconst 1, 1) := by decide +kernel
theorem dX1_isAhead_6 : decode cX1_isAhead 6 = .ok (.ireturn, 1) := by decide +kernel
theorem dX1_isAhead_7 : decode cX1_isAhead 7 = .ok (.aload_n 0, 1) := by decide +kernel
theorem dX1_isAhead_8 : decode cX1_isAhead 8 = .ok (.iload_n 1, 1) := by decide +kernel
theorem dX1_isAhead_9 : decode cX1_isAhead 9 = .ok (.invokevirtual 82, 3) := by decide +kernel
theorem dX1_isAhead_12 : decode cX1_isAhead 12 = .ok (.lstore_n 3, 1) := by decide +kernel
theorem dX1_isAhead_13 : decode cX1_isAhead 13 = .ok (.aload_n 0, 1) := by decide +kernel
theorem dX1_isAhead_14 : decode cX1_isAhead 14 = .ok (.iload_n 2, 1) := by decide +kernel
theorem dX1_isAhead_15 : decode cX1_isAhead 15 = .ok (.invokevirtual 82, 3) := by decide +kernel
theorem dX1_isAhead_18 : decode cX1_isAhead 18 = .ok (.lstore 5, 2) := by decide +kernel
theorem dX1_isAhead_20 : decode cX1_isAhead 20 = .ok (.lload_n 3, 1) := by decide +kernel
theorem dX1_isAhead_21 : decode cX1_isAhead 21 = .ok (.lload 5, 2) := by decide +kernel
theorem dX1_isAhead_23 : decode cX1_isAhead 23 = .ok (.lcmp, 1) := by decide +kernel
theorem dX1_isAhead_24 : decode cX1_isAhead 24 = .ok (.ifCond .lt 15, 3) := by decide +kernel
theorem dX1_isAhead_27 : decode cX1_isAhead 27 = .ok (.lload_n 3, 1) := by decide +kernel
theorem dX1_isAhead_28 : decode cX1_isAhead 28 = .ok (.lload 5, 2) := by decide +kernel
theorem dX1_isAhead_30 : decode cX1_isAhead 30 = .ok (.lcmp, 1) := by decide +kernel
theorem dX1_isAhead_31 : decode cX1_isAhead 31 = .ok (.ifCond .ne 12, 3) := by decide +kernel
theorem dX1_isAhead_34 : decode cX1_isAhead 34 = .ok (.iload_n 1, 1) := by decide +kernel
theorem dX1_isAhead_35 : decode cX1_isAhead 35 = .ok (.iload_n 2, 1) := by decide +kernel
theorem dX1_isAhead_36 : decode cX1_isAhead 36 = .ok (.if_icmp .ge 7, 3) := by decide +kernel
theorem dX1_isAhead_39 : decode cX1_isAhead 39 = .ok (.iconst 1, 1) := by decide +kernel
theorem dX1_isAhead_40 : decode cX1_isAhead 40 = .ok (.goto 4, 3) := by decide +kernel
theorem dX1_isAhead_43 : decode cX1_isAhead 43 = .ok (.iconst 0, 1) := by decide +kernel
theorem dX1_isAhead_44 : decode cX1_isAhead 44 = .ok (.ireturn, 1) := by decide +kernel
theorem dX1_leader_0 : decode cX1_leader 0 = .ok (.iconst (-1), 1) := by decide +kernel
theorem dX1_leader_1 : decode cX1_leader 1 = .ok (.istore_n 2, 1) := by decide +kernel
theorem dX1_leader_2 : decode cX1_leader 2 = .ok (.iconst 0, 1) := by decide +kernel
theorem dX1_leader_3 : decode cX1_leader 3 = .ok (.istore_n 3, 1) := by decide +kernel
theorem dX1_leader_4 : decode cX1_leader 4 = .ok (.iload_n 3, 1) := by decide +kernel
theorem dX1_leader_5 : decode cX1_leader 5 = .ok (.aload_n 0, 1) := by decide +kernel
theorem dX1_leader_6 : decode cX1_leader 6 = .ok (.getfield 69, 3) := by decide +kernel
theorem dX1_leader_9 : decode cX1_leader 9 = .ok (.if_icmp .ge 44, 3) := by decide +kernel
theorem dX1_leader_12 : decode cX1_leader 12 = .ok (.aload_n 0, 1) := by decide +kernel
theorem dX1_leader_13 : decode cX1_leader 13 = .ok (.iload_n 3, 1) := by decide +kernel
theorem dX1_leader_14 : decode cX1_leader 14 = .ok (.invokevirtual 86, 3) := by decide +kernel
theorem dX1_leader_17 : decode cX1_leader 17 = .ok (.ifCond .eq 28, 3) := by decide +kernel
theorem dX1_leader_20 : decode cX1_leader 20 = .ok (.aload_n 0, 1) := by decide +kernel
theorem dX1_leader_21 : decode cX1_leader 21 = .ok (.getfield 34, 3) := by decide +kernel
theorem dX1_leader_24 : decode cX1_leader 24 = .ok (.iload_n 3, 1) := by decide +kernel
theorem dX1_leader_25 : decode cX1_leader 25 = .ok (.iaload, 1) := by decide +kernel
theorem dX1_leader_26 : decode cX1_leader 26 = .ok (.iconst 2, 1) := by decide +kernel
theorem dX1_leader_27 : decode cX1_leader 27 = .ok (.idiv, 1) := by decide +kernel
theorem dX1_leader_28 : decode cX1_leader 28 = .ok (.iload_n 1, 1) := by decide +kernel
theorem dX1_leader_29 : decode cX1_leader 29 = .ok (.if_icmp .ne 16, 3) := by decide +kernel
theorem dX1_leader_32 : decode cX1_leader 32 = .ok (.aload_n 0, 1) := by decide +kernel
theorem dX1_leader_33 : decode cX1_leader 33 = .ok (.iload_n 3, 1) := by decide +kernel
theorem dX1_leader_34 : decode cX1_leader 34 = .ok (.iload_n 2, 1) := by decide +kernel
theorem dX1_leader_35 : decode cX1_leader 35 = .ok (.invokevirtual 90, 3) := by decide +kernel
theorem dX1_leader_38 : decode cX1_leader 38 = .ok (.ifCond .eq 7, 3) := by decide +kernel
theorem dX1_leader_41 : decode cX1_leader 41 = .ok (.iload_n 3, 1) := by decide +kernel
theorem dX1_leader_42 : decode cX1_leader 42 = .ok (.goto 4, 3) := by decide +kernel
theorem dX1_leader_45 : decode cX1_leader 45 = .ok (.iload_n 2, 1) := by decide +kernel
theorem dX1_leader_46 : decode cX1_leader 46 = .ok (.istore_n 2, 1) := by decide +kernel
theorem dX1_leader_47 : decode cX1_leader 47 = .ok (.iinc 3 1, 3) := by decide +kernel
theorem dX1_leader_50 : decode cX1_leader 50 = .ok (.goto (-46), 3) := by decide +kernel
theorem dX1_leader_53 : decode cX1_leader 53 = .ok (.iload_n 2, 1) := by decide +kernel
theorem dX1_leader_54 : decode cX1_leader 54 = .ok (.ireturn, 1) := by decide +kernel
theorem dX1_firstOf_0 : decode cX1_firstOf 0 = .ok (.iconst (-1), 1) := by decide +kernel
theorem dX1_firstOf_1 : decode cX1_firstOf 1 = .ok (.istore_n 3, 1) := by decide +kernel
theorem dX1_firstOf_2 : decode cX1_firstOf 2 = .ok (.iconst 0, 1) := by decide +kernel
theorem dX1_firstOf_3 : decode cX1_firstOf 3 = .ok (.istore 4, 2) := by decide +kernel
theorem dX1_firstOf_5 : decode cX1_firstOf 5 = .ok (.iload 4, 2) := by decide +kernel
theorem dX1_firstOf_7 : decode cX1_firstOf 7 = .ok (.aload_n 0, 1) := by decide +kernel
theorem dX1_firstOf_8 : decode cX1_firstOf 8 = .ok (.getfield 69, 3) := by decide +kernel
theorem dX1_firstOf_11 : decode cX1_firstOf 11 = .ok (.if_icmp .ge 57, 3) := by decide +kernel
theorem dX1_firstOf_14 : decode cX1_firstOf 14 = .ok (.aload_n 0, 1) := by decide +kernel
theorem dX1_firstOf_15 : decode cX1_firstOf 15 = .ok (.iload 4, 2) := by decide +kernel
theorem dX1_firstOf_17 : decode cX1_firstOf 17 = .ok (.invokevirtual 86, 3) := by decide +kernel
theorem dX1_firstOf_20 : decode cX1_firstOf 20 = .ok (.ifCond .eq 40, 3) := by decide +kernel
theorem dX1_firstOf_23 : decode cX1_firstOf 23 = .ok (.aload_n 0, 1) := by decide +kernel
theorem dX1_firstOf_24 : decode cX1_firstOf 24 = .ok (.getfield 34, 3) := by decide +kernel
theorem dX1_firstOf_27 : decode cX1_firstOf 27 = .ok (.iload 4, 2) := by decide +kernel
theorem dX1_firstOf_29 : decode cX1_firstOf 29 = .ok (.iaload, 1) := by decide +kernel
theorem dX1_firstOf_30 : decode cX1_firstOf 30 = .ok (.iload_n 1, 1) := by decide +kernel
theorem dX1_firstOf_31 : decode cX1_firstOf 31 = .ok (.if_icmp .ne 29, 3) := by decide +kernel
theorem dX1_firstOf_34 : decode cX1_firstOf 34 = .ok (.aload_n 0, 1) := by decide +kernel
theorem dX1_firstOf_35 : decode cX1_firstOf 35 = .ok (.getfield 40, 3) := by decide +kernel
theorem dX1_firstOf_38 : decode cX1_firstOf 38 = .ok (.iload 4, 2) := by decide +kernel
theorem dX1_firstOf_40 : decode cX1_firstOf 40 = .ok (.iaload, 1) := by decide +kernel
theorem dX1_firstOf_41 : decode cX1_firstOf 41 = .ok (.iload_n 2, 1) := by decide +kernel
theorem dX1_firstOf_42 : decode cX1_firstOf 42 = .ok (.if_icmp .ne 18, 3) := by decide +kernel
theorem dX1_firstOf_45 : decode cX1_firstOf 45 = .ok (.aload_n 0, 1) := by decide +kernel
theorem dX1_firstOf_46 : decode cX1_firstOf 46 = .ok (.iload 4, 2) := by decide +kernel
theorem dX1_firstOf_48 : decode cX1_firstOf 48 = .ok (.iload_n 3, 1) := by decide +kernel
theorem dX1_firstOf_49 : decode cX1_firstOf 49 = .ok (.invokevirtual 90, 3) := by decide +kernel
theorem dX1_firstOf_52 : decode cX1_firstOf 52 = .ok (.ifCond .eq 8, 3) := by decide +kernel
theorem dX1_firstOf_55 : decode cX1_firstOf 55 = .ok (.iload 4, 2) := by decide +kernel
theorem dX1_firstOf_57 : decode cX1_firstOf 57 = .ok (.goto 4, 3) := by decide +kernel
theorem dX1_firstOf_60 : decode cX1_firstOf 60 = .ok (.iload_n 3, 1) := by decide +kernel
theorem dX1_firstOf_61 : decode cX1_firstOf 61 = .ok (.istore_n 3, 1) := by decide +kernel
theorem dX1_firstOf_62 : decode cX1_firstOf 62 = .ok (.iinc 4 1, 3) := by decide +kernel
theorem dX1_firstOf_65 : decode cX1_firstOf 65 = .ok (.goto (-60), 3) := by decide +kernel
theorem dX1_firstOf_68 : decode cX1_firstOf 68 = .ok (.iload_n 3, 1) := by decide +kernel
theorem dX1_firstOf_69 : decode cX1_firstOf 69 = .ok (.ireturn, 1) := by decide +kernel
theorem dX1_toSteal_0 : decode cX1_toSteal 0 = .ok (.iconst (-1), 1) := by decide +kernel
theorem dX1_toSteal_1 : decode cX1_toSteal 1 = .ok (.istore_n 3, 1) := by decide +kernel
theorem dX1_toSteal_2 : decode cX1_toSteal 2 = .ok (.iconst 0, 1) := by decide +kernel
theorem dX1_toSteal_3 : decode cX1_toSteal 3 = .ok (.istore 4, 2) := by decide +kernel
theorem dX1_toSteal_5 : decode cX1_toSteal 5 = .ok (.iload 4, 2) := by decide +kernel
theorem dX1_toSteal_7 : decode cX1_toSteal 7 = .ok (.aload_n 0, 1) := by decide +kernel
theorem dX1_toSteal_8 : decode cX1_toSteal 8 = .ok (.getfield 69, 3) := by decide +kernel
theorem dX1_toSteal_11 : decode cX1_toSteal 11 = .ok (.if_icmp .ge 67, 3) := by decide +kernel
theorem dX1_toSteal_14 : decode cX1_toSteal 14 = .ok (.aload_n 0, 1) := by decide +kernel
theorem dX1_toSteal_15 : decode cX1_toSteal 15 = .ok (.getfield 62, 3) := by decide +kernel
theorem dX1_toSteal_18 : decode cX1_toSteal 18 = .ok (.ifCond .eq 60, 3) := by decide +kernel
theorem dX1_toSteal_21 : decode cX1_toSteal 21 = .ok (.aload_n 0, 1) := by decide +kernel
theorem dX1_toSteal_22 : decode cX1_toSteal 22 = .ok (.getfield 43, 3) := by decide +kernel
theorem dX1_toSteal_25 : decode cX1_toSteal 25 = .ok (.iload 4, 2) := by decide +kernel
theorem dX1_toSteal_27 : decode cX1_toSteal 27 = .ok (.iaload, 1) := by decide +kernel
theorem dX1_toSteal_28 : decode cX1_toSteal 28 = .ok (.ifCond .ne 42, 3) := by decide +kernel
theorem dX1_toSteal_31 : decode cX1_toSteal 31 = .ok (.aload_n 0, 1) := by decide +kernel
theorem dX1_toSteal_32 : decode cX1_toSteal 32 = .ok (.getfield 34, 3) := by decide +kernel
theorem dX1_toSteal_35 : decode cX1_toSteal 35 = .ok (.iload 4, 2) := by decide +kernel
theorem dX1_toSteal_37 : decode cX1_toSteal 37 = .ok (.iaload, 1) := by decide +kernel
theorem dX1_toSteal_38 : decode cX1_toSteal 38 = .ok (.iconst 2, 1) := by decide +kernel
theorem dX1_toSteal_39 : decode cX1_toSteal 39 = .ok (.idiv, 1) := by decide +kernel
theorem dX1_toSteal_40 : decode cX1_toSteal 40 = .ok (.iload_n 1, 1) := by decide +kernel
theorem dX1_toSteal_41 : decode cX1_toSteal 41 = .ok (.if_icmp .eq 29, 3) := by decide +kernel
theorem dX1_toSteal_44 : decode cX1_toSteal 44 = .ok (.aload_n 0, 1) := by decide +kernel
theorem dX1_toSteal_45 : decode cX1_toSteal 45 = .ok (.getfield 40, 3) := by decide +kernel
theorem dX1_toSteal_48 : decode cX1_toSteal 48 = .ok (.iload 4, 2) := by decide +kernel
theorem dX1_toSteal_50 : decode cX1_toSteal 50 = .ok (.iaload, 1) := by decide +kernel
theorem dX1_toSteal_51 : decode cX1_toSteal 51 = .ok (.iload_n 2, 1) := by decide +kernel
theorem dX1_toSteal_52 : decode cX1_toSteal 52 = .ok (.if_icmp .ne 18, 3) := by decide +kernel
theorem dX1_toSteal_55 : decode cX1_toSteal 55 = .ok (.aload_n 0, 1) := by decide +kernel
theorem dX1_toSteal_56 : decode cX1_toSteal 56 = .ok (.iload 4, 2) := by decide +kernel
theorem dX1_toSteal_58 : decode cX1_toSteal 58 = .ok (.iload_n 3, 1) := by decide +kernel
theorem dX1_toSteal_59 : decode cX1_toSteal 59 = .ok (.invokevirtual 90, 3) := by decide +kernel
theorem dX1_toSteal_62 : decode cX1_toSteal 62 = .ok (.ifCond .eq 8, 3) := by decide +kernel
theorem dX1_toSteal_65 : decode cX1_toSteal 65 = .ok (.iload 4, 2) := by decide +kernel
theorem dX1_toSteal_67 : decode cX1_toSteal 67 = .ok (.goto 4, 3) := by decide +kernel
theorem dX1_toSteal_70 : decode cX1_toSteal 70 = .ok (.iload_n 3, 1) := by decide +kernel
theorem dX1_toSteal_71 : decode cX1_toSteal 71 = .ok (.istore_n 3, 1) := by decide +kernel
theorem dX1_toSteal_72 : decode cX1_toSteal 72 = .ok (.iinc 4 1, 3) := by decide +kernel
theorem dX1_toSteal_75 : decode cX1_toSteal 75 = .ok (.goto (-70), 3) := by decide +kernel
theorem dX1_toSteal_78 : decode cX1_toSteal 78 = .ok (.iload_n 3, 1) := by decide +kernel
theorem dX1_toSteal_79 : decode cX1_toSteal 79 = .ok (.ireturn, 1) := by decide +kernel
theorem dX1_goesTo_0 : decode cX1_goesTo 0 = .ok (.aload_n 0, 1) := by decide +kernel
theorem dX1_goesTo_1 : decode cX1_goesTo 1 = .ok (.getfield 46, 3) := by decide +kernel
theorem dX1_goesTo_4 : decode cX1_goesTo 4 = .ok (.iload_n 1, 1) := by decide +kernel
theorem dX1_goesTo_5 : decode cX1_goesTo 5 = .ok (.aload_n 0, 1) := by decide +kernel
theorem dX1_goesTo_6 : decode cX1_goesTo 6 = .ok (.iload_n 1, 1) := by decide +kernel
theorem dX1_goesTo_7 : decode cX1_goesTo 7 = .ok (.invokevirtual 82, 3) := by decide +kernel
theorem dX1_goesTo_10 : decode cX1_goesTo 10 = .ok (.aload_n 0, 1) := by decide +kernel
theorem dX1_goesTo_11 : decode cX1_goesTo 11 = .ok (.getfield 13, 3) := by decide +kernel
theorem dX1_goesTo_14 : decode cX1_goesTo 14 = .ok (.iload_n 2, 1) := by decide +kernel
theorem dX1_goesTo_15 : decode cX1_goesTo 15 = .ok (.laload, 1) := by decide +kernel
theorem dX1_goesTo_16 : decode cX1_goesTo 16 = .ok (.ladd, 1) := by decide +kernel
theorem dX1_goesTo_17 : decode cX1_goesTo 17 = .ok (.lastore, 1) := by decide +kernel
theorem dX1_goesTo_18 : decode cX1_goesTo 18 = .ok (.aload_n 0, 1) := by decide +kernel
theorem dX1_goesTo_19 : decode cX1_goesTo 19 = .ok (.getfield 34, 3) := by decide +kernel
theorem dX1_goesTo_22 : decode cX1_goesTo 22 = .ok (.iload_n 1, 1) := by decide +kernel
theorem dX1_goesTo_23 : decode cX1_goesTo 23 = .ok (.iload_n 2, 1) := by decide +kernel
theorem dX1_goesTo_24 : decode cX1_goesTo 24 = .ok (.iastore, 1) := by decide +kernel
theorem dX1_goesTo_25 : decode cX1_goesTo 25 = .ok (.return_, 1) := by decide +kernel
theorem dX1_queued_0 : decode cX1_queued 0 = .ok (.iconst 0, 1) := by decide +kernel
theorem dX1_queued_1 : decode cX1_queued 1 = .ok (.istore_n 2, 1) := by decide +kernel
theorem dX1_queued_2 : decode cX1_queued 2 = .ok (.iconst 0, 1) := by decide +kernel
theorem dX1_queued_3 : decode cX1_queued 3 = .ok (.istore_n 3, 1) := by decide +kernel
theorem dX1_queued_4 : decode cX1_queued 4 = .ok (.iload_n 3, 1) := by decide +kernel
theorem dX1_queued_5 : decode cX1_queued 5 = .ok (.aload_n 0, 1) := by decide +kernel
theorem dX1_queued_6 : decode cX1_queued 6 = .ok (.getfield 69, 3) := by decide +kernel
theorem dX1_queued_9 : decode cX1_queued 9 = .ok (.if_icmp .ge 35, 3) := by decide +kernel
theorem dX1_queued_12 : decode cX1_queued 12 = .ok (.iload_n 2, 1) := by decide +kernel
theorem dX1_queued_13 : decode cX1_queued 13 = .ok (.aload_n 0, 1) := by decide +kernel
theorem dX1_queued_14 : decode cX1_queued 14 = .ok (.iload_n 3, 1) := by decide +kernel
theorem dX1_queued_15 : decode cX1_queued 15 = .ok (.invokevirtual 86, 3) := by decide +kernel
theorem dX1_queued_18 : decode cX1_queued 18 = .ok (.ifCond .eq 17, 3) := by decide +kernel
theorem dX1_queued_21 : decode cX1_queued 21 = .ok (.aload_n 0, 1) := by decide +kernel
theorem dX1_queued_22 : decode cX1_queued 22 = .ok (.getfield 34, 3) := by decide +kernel
theorem dX1_queued_25 : decode cX1_queued 25 = .ok (.iload_n 3, 1) := by decide +kernel
theorem dX1_queued_26 : decode cX1_queued 26 = .ok (.iaload, 1) := by decide +kernel
theorem dX1_queued_27 : decode cX1_queued 27 = .ok (.iload_n 1, 1) := by decide +kernel
theorem dX1_queued_28 : decode cX1_queued 28 = .ok (.if_icmp .ne 7, 3) := by decide +kernel
theorem dX1_queued_31 : decode cX1_queued 31 = .ok (.iconst 1, 1) := by decide +kernel
theorem dX1_queued_32 : decode cX1_queued 32 = .ok (.goto 4, 3) := by decide +kernel
theorem dX1_queued_35 : decode cX1_queued 35 = .ok (.iconst 0, 1) := by decide +kernel
theorem dX1_queued_36 : decode cX1_queued 36 = .ok (.iadd, 1) := by decide +kernel
theorem dX1_queued_37 : decode cX1_queued 37 = .ok (.istore_n 2, 1) := by decide +kernel
theorem dX1_queued_38 : decode cX1_queued 38 = .ok (.iinc 3 1, 3) := by decide +kernel
theorem dX1_queued_41 : decode cX1_queued 41 = .ok (.goto (-37), 3) := by decide +kernel
theorem dX1_queued_44 : decode cX1_queued 44 = .ok (.iload_n 2, 1) := by decide +kernel
theorem dX1_queued_45 : decode cX1_queued 45 = .ok (.ireturn, 1) := by decide +kernel
theorem dX1_picks_0 : decode cX1_picks 0 = .ok (.aload_n 0, 1) := by decide +kernel
theorem dX1_picks_1 : decode cX1_picks 1 = .ok (.iload_n 1, 1) := by decide +kernel
theorem dX1_picks_2 : decode cX1_picks 2 = .ok (.invokevirtual 94, 3) := by decide +kernel
theorem dX1_picks_5 : decode cX1_picks 5 = .ok (.istore_n 2, 1) := by decide +kernel
theorem dX1_picks_6 : decode cX1_picks 6 = .ok (.aload_n 0, 1) := by decide +kernel
theorem dX1_picks_7 : decode cX1_picks 7 = .ok (.getfield 31, 3) := by decide +kernel
theorem dX1_picks_10 : decode cX1_picks 10 = .ok (.iload_n 1, 1) := by decide +kernel
theorem dX1_picks_11 : decode cX1_picks 11 = .ok (.iload_n 2, 1) := by decide +kernel
theorem dX1_picks_12 : decode cX1_picks 12 = .ok (.iconst (-1), 1) := by decide +kernel
theorem dX1_picks_13 : decode cX1_picks 13 = .ok (.if_icmp .ne 7, 3) := by decide +kernel
theorem dX1_picks_16 : decode cX1_picks 16 = .ok (.iconst (-1), 1) := by decide +kernel
theorem dX1_picks_17 : decode cX1_picks 17 = .ok (.goto 9, 3) := by decide +kernel
theorem dX1_picks_20 : decode cX1_picks 20 = .ok (.aload_n 0, 1) := by decide +kernel
theorem dX1_picks_21 : decode cX1_picks 21 = .ok (.getfield 40, 3) := by decide +kernel
theorem dX1_picks_24 : decode cX1_picks 24 = .ok (.iload_n 2, 1) := by decide +kernel
theorem dX1_picks_25 : decode cX1_picks 25 = .ok (.iaload, 1) := by decide +kernel
theorem dX1_picks_26 : decode cX1_picks 26 = .ok (.iastore, 1) := by decide +kernel
theorem dX1_picks_27 : decode cX1_picks 27 = .ok (.iconst 2, 1) := by decide +kernel
theorem dX1_picks_28 : decode cX1_picks 28 = .ok (.iload_n 1, 1) := by decide +kernel
theorem dX1_picks_29 : decode cX1_picks 29 = .ok (.imul, 1) := by decide +kernel
theorem dX1_picks_30 : decode cX1_picks 30 = .ok (.istore_n 3, 1) := by decide +kernel
theorem dX1_picks_31 : decode cX1_picks 31 = .ok (.iload_n 3, 1) := by decide +kernel
theorem dX1_picks_32 : decode cX1_picks 32 = .ok (.iconst 2, 1) := by decide +kernel
theorem dX1_picks_33 : decode cX1_picks 33 = .ok (.iload_n 1, 1) := by decide +kernel
theorem dX1_picks_34 : decode cX1_picks 34 = .ok (.imul, 1) := by decide +kernel
theorem dX1_picks_35 : decode cX1_picks 35 = .ok (.iconst 2, 1) := by decide +kernel
theorem dX1_picks_36 : decode cX1_picks 36 = .ok (.iadd, 1) := by decide +kernel
theorem dX1_picks_37 : decode cX1_picks 37 = .ok (.if_icmp .ge 111, 3) := by decide +kernel
theorem dX1_picks_40 : decode cX1_picks 40 = .ok (.iload_n 2, 1) := by decide +kernel
theorem dX1_picks_41 : decode cX1_picks 41 = .ok (.iconst (-1), 1) := by decide +kernel
theorem dX1_picks_42 : decode cX1_picks 42 = .ok (.if_icmp .ne 7, 3) := by decide +kernel
theorem dX1_picks_45 : decode cX1_picks 45 = .ok (.iconst (-1), 1) := by decide +kernel
theorem dX1_picks_46 : decode cX1_picks 46 = .ok (.goto 14, 3) := by decide +kernel
theorem dX1_picks_49 : decode cX1_picks 49 = .ok (.aload_n 0, 1) := by decide +kernel
theorem dX1_picks_50 : decode cX1_picks 50 = .ok (.iload_n 3, 1) := by decide +kernel
theorem dX1_picks_51 : decode cX1_picks 51 = .ok (.aload_n 0, 1) := by decide +kernel
theorem dX1_picks_52 : decode cX1_picks 52 = .ok (.getfield 31, 3) := by decide +kernel
theorem dX1_picks_55 : decode cX1_picks 55 = .ok (.iload_n 1, 1) := by decide +kernel
theorem dX1_picks_56 : decode cX1_picks 56 = .ok (.iaload, 1) := by decide +kernel
theorem dX1_picks_57 : decode cX1_picks 57 = .ok (.invokevirtual 98, 3) := by decide +kernel
theorem dX1_picks_60 : decode cX1_picks 60 = .ok (.istore 4, 2) := by decide +kernel
theorem dX1_picks_62 : decode cX1_picks 62 = .ok (.iload 4, 2) := by decide +kernel
theorem dX1_picks_64 : decode cX1_picks 64 = .ok (.iconst (-1), 1) := by decide +kernel
theorem dX1_picks_65 : decode cX1_picks 65 = .ok (.if_icmp .ne 44, 3) := by decide +kernel
theorem dX1_picks_68 : decode cX1_picks 68 = .ok (.iload_n 2, 1) := by decide +kernel
theorem dX1_picks_69 : decode cX1_picks 69 = .ok (.iconst (-1), 1) := by decide +kernel
theorem dX1_picks_70 : decode cX1_picks 70 = .ok (.if_icmp .eq 39, 3) := by decide +kernel
theorem dX1_picks_73 : decode cX1_picks 73 = .ok (.aload_n 0, 1) := by decide +kernel
theorem dX1_picks_74 : decode cX1_picks 74 = .ok (.iload_n 1, 1) := by decide +kernel
theorem dX1_picks_75 : decode cX1_picks 75 = .ok (.aload_n 0, 1) := by decide +kernel
theorem dX1_picks_76 : decode cX1_picks 76 = .ok (.getfield 31, 3) := by decide +kernel
theorem dX1_picks_79 : decode cX1_picks 79 = .ok (.iload_n 1, 1) := by decide +kernel
theorem dX1_picks_80 : decode cX1_picks 80 = .ok (.iaload, 1) := by decide +kernel
theorem dX1_picks_81 : decode cX1_picks 81 = .ok (.invokevirtual 102, 3) := by decide +kernel
theorem dX1_picks_84 : decode cX1_picks 84 = .ok (.istore 4, 2) := by decide +kernel
theorem dX1_picks_86 : decode cX1_picks 86 = .ok (.iload 4, 2) := by decide +kernel
theorem dX1_picks_88 : decode cX1_picks 88 = .ok (.iconst (-1), 1) := by decide +kernel
theorem dX1_picks_89 : decode cX1_picks 89 = .ok (.if_icmp .eq 20, 3) := by decide +kernel
theorem dX1_picks_92 : decode cX1_picks 92 = .ok (.aload_n 0, 1) := by decide +kernel
theorem dX1_picks_93 : decode cX1_picks 93 = .ok (.iload 4, 2) := by decide +kernel
theorem dX1_picks_95 : decode cX1_picks 95 = .ok (.iload_n 3, 1) := by decide +kernel
theorem dX1_picks_96 : decode cX1_picks 96 = .ok (.invokevirtual 105, 3) := by decide +kernel
theorem dX1_picks_99 : decode cX1_picks 99 = .ok (.aload_n 0, 1) := by decide +kernel
theorem dX1_picks_100 : decode cX1_picks 100 = .ok (.dup, 1) := by decide +kernel
theorem dX1_picks_101 : decode cX1_picks 101 = .ok (.getfield 66, 3) := by decide +kernel
theorem dX1_picks_104 : decode cX1_picks 104 = .ok (.iconst 1, 1) := by decide +kernel
theorem dX1_picks_105 : decode cX1_picks 105 = .ok (.iadd, 1) := by decide +kernel
theorem dX1_picks_106 : decode cX1_picks 106 = .ok (.putfield 66, 3) := by decide +kernel
theorem dX1_picks_109 : decode cX1_picks 109 = .ok (.aload_n 0, 1) := by decide +kernel
theorem dX1_picks_110 : decode cX1_picks 110 = .ok (.getfield 17, 3) := by decide +kernel
theorem dX1_picks_113 : decode cX1_picks 113 = .ok (.iload_n 3, 1) := by decide +kernel
theorem dX1_picks_114 : decode cX1_picks 114 = .ok (.iload 4, 2) := by decide +kernel
theorem dX1_picks_116 : decode cX1_picks 116 = .ok (.iastore, 1) := by decide +kernel
theorem dX1_picks_117 : decode cX1_picks 117 = .ok (.aload_n 0, 1) := by decide +kernel
theorem dX1_picks_118 : decode cX1_picks 118 = .ok (.getfield 21, 3) := by decide +kernel
theorem dX1_picks_121 : decode cX1_picks 121 = .ok (.iload_n 3, 1) := by decide +kernel
theorem dX1_picks_122 : decode cX1_picks 122 = .ok (.iload 4, 2) := by decide +kernel
theorem dX1_picks_124 : decode cX1_picks 124 = .ok (.iconst (-1), 1) := by decide +kernel
theorem dX1_picks_125 : decode cX1_picks 125 = .ok (.if_icmp .ne 15, 3) := by decide +kernel
theorem dX1_picks_128 : decode cX1_picks 128 = .ok (.aload_n 0, 1) := by decide +kernel
theorem dX1_picks_129 : decode cX1_picks 129 = .ok (.iload_n 3, 1) := by decide +kernel
theorem dX1_picks_130 : decode cX1_picks 130 = .ok (.invokevirtual 109, 3) := by decide +kernel
theorem dX1_picks_133 : decode cX1_picks 133 = .ok (.ifCond .le 7, 3) := by decide +kernel
theorem dX1_picks_136 : decode cX1_picks 136 = .ok (.iconst 1, 1) := by decide +kernel
theorem dX1_picks_137 : decode cX1_picks 137 = .ok (.goto 4, 3) := by decide +kernel
theorem dX1_picks_140 : decode cX1_picks 140 = .ok (.iconst 0, 1) := by decide +kernel
theorem dX1_picks_141 : decode cX1_picks 141 = .ok (.bastore, 1) := by decide +kernel
theorem dX1_picks_142 : decode cX1_picks 142 = .ok (.iinc 3 1, 3) := by decide +kernel
theorem dX1_picks_145 : decode cX1_picks 145 = .ok (.goto (-114), 3) := by decide +kernel
theorem dX1_picks_148 : decode cX1_picks 148 = .ok (.iconst 0, 1) := by decide +kernel
theorem dX1_picks_149 : decode cX1_picks 149 = .ok (.istore_n 3, 1) := by decide +kernel
theorem dX1_picks_150 : decode cX1_picks 150 = .ok (.iload_n 3, 1) := by decide +kernel
theorem dX1_picks_151 : decode cX1_picks 151 = .ok (.aload_n 0, 1) := by decide +kernel
theorem dX1_picks_152 : decode cX1_picks 152 = .ok (.getfield 69, 3) := by decide +kernel
theorem dX1_picks_155 : decode cX1_picks 155 = .ok (.if_icmp .ge 55, 3) := by decide +kernel
theorem dX1_picks_158 : decode cX1_picks 158 = .ok (.aload_n 0, 1) := by decide +kernel
theorem dX1_picks_159 : decode cX1_picks 159 = .ok (.iload_n 3, 1) := by decide +kernel
theorem dX1_picks_160 : decode cX1_picks 160 = .ok (.invokevirtual 86, 3) := by decide +kernel
theorem dX1_picks_163 : decode cX1_picks 163 = .ok (.ifCond .eq 41, 3) := by decide +kernel
theorem dX1_picks_166 : decode cX1_picks 166 = .ok (.aload_n 0, 1) := by decide +kernel
theorem dX1_picks_167 : decode cX1_picks 167 = .ok (.getfield 34, 3) := by decide +kernel
theorem dX1_picks_170 : decode cX1_picks 170 = .ok (.iload_n 3, 1) := by decide +kernel
theorem dX1_picks_171 : decode cX1_picks 171 = .ok (.iaload, 1) := by decide +kernel
theorem dX1_picks_172 : decode cX1_picks 172 = .ok (.iconst 2, 1) := by decide +kernel
theorem dX1_picks_173 : decode cX1_picks 173 = .ok (.idiv, 1) := by decide +kernel
theorem dX1_picks_174 : decode cX1_picks 174 = .ok (.iload_n 1, 1) := by decide +kernel
theorem dX1_picks_175 : decode cX1_picks 175 = .ok (.if_icmp .ne 29, 3) := by decide +kernel
theorem dX1_picks_178 : decode cX1_picks 178 = .ok (.aload_n 0, 1) := by decide +kernel
theorem dX1_picks_179 : decode cX1_picks 179 = .ok (.getfield 43, 3) := by decide +kernel
theorem dX1_picks_182 : decode cX1_picks 182 = .ok (.iload_n 3, 1) := by decide +kernel
theorem dX1_picks_183 : decode cX1_picks 183 = .ok (.aload_n 0, 1) := by decide +kernel
theorem dX1_picks_184 : decode cX1_picks 184 = .ok (.getfield 17, 3) := by decide +kernel
theorem dX1_picks_187 : decode cX1_picks 187 = .ok (.aload_n 0, 1) := by decide +kernel
theorem dX1_picks_188 : decode cX1_picks 188 = .ok (.getfield 34, 3) := by decide +kernel
theorem dX1_picks_191 : decode cX1_picks 191 = .ok (.iload_n 3, 1) := by decide +kernel
theorem dX1_picks_192 : decode cX1_picks 192 = .ok (.iaload, 1) := by decide +kernel
theorem dX1_picks_193 : decode cX1_picks 193 = .ok (.iaload, 1) := by decide +kernel
theorem dX1_picks_194 : decode cX1_picks 194 = .ok (.iload_n 3, 1) := by decide +kernel
theorem dX1_picks_195 : decode cX1_picks 195 = .ok (.if_icmp .ne 7, 3) := by decide +kernel
theorem dX1_picks_198 : decode cX1_picks 198 = .ok (.iconst 1, 1) := by decide +kernel
theorem dX1_picks_199 : decode cX1_picks 199 = .ok (.goto 4, 3) := by decide +kernel
theorem dX1_picks_202 : decode cX1_picks 202 = .ok (.iconst 0, 1) := by decide +kernel
theorem dX1_picks_203 : decode cX1_picks 203 = .ok (.iastore, 1) := by decide +kernel
theorem dX1_picks_204 : decode cX1_picks 204 = .ok (.iinc 3 1, 3) := by decide +kernel
theorem dX1_picks_207 : decode cX1_picks 207 = .ok (.goto (-57), 3) := by decide +kernel
theorem dX1_picks_210 : decode cX1_picks 210 = .ok (.return_, 1) := by decide +kernel
theorem dX1_tickOne_0 : decode cX1_tickOne 0 = .ok (.iconst 0, 1) := by decide +kernel
theorem dX1_tickOne_1 : decode cX1_tickOne 1 = .ok (.istore_n 1, 1) := by decide +kernel
theorem dX1_tickOne_2 : decode cX1_tickOne 2 = .ok (.iload_n 1, 1) := by decide +kernel
theorem dX1_tickOne_3 : decode cX1_tickOne 3 = .ok (.aload_n 0, 1) := by decide +kernel
theorem dX1_tickOne_4 : decode cX1_tickOne 4 = .ok (.getfield 7, 3) := by decide +kernel
theorem dX1_tickOne_7 : decode cX1_tickOne 7 = .ok (.if_icmp .ge 14, 3) := by decide +kernel
theorem dX1_tickOne_10 : decode cX1_tickOne 10 = .ok (.aload_n 0, 1) := by decide +kernel
theorem dX1_tickOne_11 : decode cX1_tickOne 11 = .ok (.iload_n 1, 1) := by decide +kernel
theorem dX1_tickOne_12 : decode cX1_tickOne 12 = .ok (.invokevirtual 112, 3) := by decide +kernel
theorem dX1_tickOne_15 : decode cX1_tickOne 15 = .ok (.iinc 1 1, 3) := by decide +kernel
theorem dX1_tickOne_18 : decode cX1_tickOne 18 = .ok (.goto (-16), 3) := by decide +kernel
theorem dX1_tickOne_21 : decode cX1_tickOne 21 = .ok (.iconst 0, 1) := by decide +kernel
theorem dX1_tickOne_22 : decode cX1_tickOne 22 = .ok (.istore_n 1, 1) := by decide +kernel
theorem dX1_tickOne_23 : decode cX1_tickOne 23 = .ok (.iconst 0, 1) := by decide +kernel
theorem dX1_tickOne_24 : decode cX1_tickOne 24 = .ok (.istore_n 2, 1) := by decide +kernel
theorem dX1_tickOne_25 : decode cX1_tickOne 25 = .ok (.iload_n 2, 1) := by decide +kernel
theorem dX1_tickOne_26 : decode cX1_tickOne 26 = .ok (.aload_n 0, 1) := by decide +kernel
theorem dX1_tickOne_27 : decode cX1_tickOne 27 = .ok (.getfield 69, 3) := by decide +kernel
theorem dX1_tickOne_30 : decode cX1_tickOne 30 = .ok (.if_icmp .ge 75, 3) := by decide +kernel
theorem dX1_tickOne_33 : decode cX1_tickOne 33 = .ok (.aload_n 0, 1) := by decide +kernel
theorem dX1_tickOne_34 : decode cX1_tickOne 34 = .ok (.getfield 43, 3) := by decide +kernel
theorem dX1_tickOne_37 : decode cX1_tickOne 37 = .ok (.iload_n 2, 1) := by decide +kernel
theorem dX1_tickOne_38 : decode cX1_tickOne 38 = .ok (.iaload, 1) := by decide +kernel
theorem dX1_tickOne_39 : decode cX1_tickOne 39 = .ok (.iconst 1, 1) := by decide +kernel
theorem dX1_tickOne_40 : decode cX1_tickOne 40 = .ok (.if_icmp .ne 36, 3) := by decide +kernel
theorem dX1_tickOne_43 : decode cX1_tickOne 43 = .ok (.aload_n 0, 1) := by decide +kernel
theorem dX1_tickOne_44 : decode cX1_tickOne 44 = .ok (.getfield 49, 3) := by decide +kernel
theorem dX1_tickOne_47 : decode cX1_tickOne 47 = .ok (.iload_n 2, 1) := by decide +kernel
theorem dX1_tickOne_48 : decode cX1_tickOne 48 = .ok (.dup2, 1) := by decide +kernel
theorem dX1_tickOne_49 : decode cX1_tickOne 49 = .ok (.iaload, 1) := by decide +kernel
theorem dX1_tickOne_50 : decode cX1_tickOne 50 = .ok (.iconst 1, 1) := by decide +kernel
theorem dX1_tickOne_51 : decode cX1_tickOne 51 = .ok (.iadd, 1) := by decide +kernel
theorem dX1_tickOne_52 : decode cX1_tickOne 52 = .ok (.iastore, 1) := by decide +kernel
theorem dX1_tickOne_53 : decode cX1_tickOne 53 = .ok (.aload_n 0, 1) := by decide +kernel
theorem dX1_tickOne_54 : decode cX1_tickOne 54 = .ok (.getfield 46, 3) := by decide +kernel
theorem dX1_tickOne_57 : decode cX1_tickOne 57 = .ok (.iload_n 2, 1) := by decide +kernel
theorem dX1_tickOne_58 : decode cX1_tickOne 58 = .ok (.dup2, 1) := by decide +kernel
theorem dX1_tickOne_59 : decode cX1_tickOne 59 = .ok (.laload, 1) := by decide +kernel
theorem dX1_tickOne_60 : decode cX1_tickOne 60 = .ok (.sipush 5040, 3) := by decide +kernel
theorem dX1_tickOne_63 : decode cX1_tickOne 63 = .ok (.aload_n 0, 1) := by decide +kernel
theorem dX1_tickOne_64 : decode cX1_tickOne 64 = .ok (.getfield 37, 3) := by decide +kernel
theorem dX1_tickOne_67 : decode cX1_tickOne 67 = .ok (.iload_n 2, 1) := by decide +kernel
theorem dX1_tickOne_68 : decode cX1_tickOne 68 = .ok (.iaload, 1) := by decide +kernel
theorem dX1_tickOne_69 : decode cX1_tickOne 69 = .ok (.idiv, 1) := by decide +kernel
theorem dX1_tickOne_70 : decode cX1_tickOne 70 = .ok (.i2l, 1) := by decide +kernel
theorem dX1_tickOne_71 : decode cX1_tickOne 71 = .ok (.ladd, 1) := by decide +kernel
theorem dX1_tickOne_72 : decode cX1_tickOne 72 = .ok (.lastore, 1) := by decide +kernel
theorem dX1_tickOne_73 : decode cX1_tickOne 73 = .ok (.iinc 1 1, 3) := by decide +kernel
theorem dX1_tickOne_76 : decode cX1_tickOne 76 = .ok (.aload_n 0, 1) := by decide +kernel
theorem dX1_tickOne_77 : decode cX1_tickOne 77 = .ok (.getfield 52, 3) := by decide +kernel
theorem dX1_tickOne_80 : decode cX1_tickOne 80 = .ok (.iload_n 2, 1) := by decide +kernel
theorem dX1_tickOne_81 : decode cX1_tickOne 81 = .ok (.dup2, 1) := by decide +kernel
theorem dX1_tickOne_82 : decode cX1_tickOne 82 = .ok (.iaload, 1) := by decide +kernel
theorem dX1_tickOne_83 : decode cX1_tickOne 83 = .ok (.aload_n 0, 1) := by decide +kernel
theorem dX1_tickOne_84 : decode cX1_tickOne 84 = .ok (.getfield 43, 3) := by decide +kernel
theorem dX1_tickOne_87 : decode cX1_tickOne 87 = .ok (.iload_n 2, 1) := by decide +kernel
theorem dX1_tickOne_88 : decode cX1_tickOne 88 = .ok (.iaload, 1) := by decide +kernel
theorem dX1_tickOne_89 : decode cX1_tickOne 89 = .ok (.ifCond .ne 7, 3) := by decide +kernel
theorem dX1_tickOne_92 : decode cX1_tickOne 92 = .ok (.iconst 1, 1) := by decide +kernel
theorem dX1_tickOne_93 : decode cX1_tickOne 93 = .ok (.goto 4, 3) := by decide +kernel
theorem dX1_tickOne_96 : decode cX1_tickOne 96 = .ok (.iconst 0, 1) := by decide +kernel
theorem dX1_tickOne_97 : decode cX1_tickOne 97 = .ok (.iadd, 1) := by decide +kernel
theorem dX1_tickOne_98 : decode cX1_tickOne 98 = .ok (.iastore, 1) := by decide +kernel
theorem dX1_tickOne_99 : decode cX1_tickOne 99 = .ok (.iinc 2 1, 3) := by decide +kernel
theorem dX1_tickOne_102 : decode cX1_tickOne 102 = .ok (.goto (-77), 3) := by decide +kernel
theorem dX1_tickOne_105 : decode cX1_tickOne 105 = .ok (.iconst 0, 1) := by decide +kernel
theorem dX1_tickOne_106 : decode cX1_tickOne 106 = .ok (.istore_n 2, 1) := by decide +kernel
theorem dX1_tickOne_107 : decode cX1_tickOne 107 = .ok (.iload_n 2, 1) := by decide +kernel
theorem dX1_tickOne_108 : decode cX1_tickOne 108 = .ok (.iconst 2, 1) := by decide +kernel
theorem dX1_tickOne_109 : decode cX1_tickOne 109 = .ok (.aload_n 0, 1) := by decide +kernel
theorem dX1_tickOne_110 : decode cX1_tickOne 110 = .ok (.getfield 7, 3) := by decide +kernel
theorem dX1_tickOne_113 : decode cX1_tickOne 113 = .ok (.imul, 1) := by decide +kernel
theorem dX1_tickOne_114 : decode cX1_tickOne 114 = .ok (.if_icmp .ge 186, 3) := by decide +kernel
theorem dX1_tickOne_117 : decode cX1_tickOne 117 = .ok (.aload_n 0, 1) := by decide +kernel
theorem dX1_tickOne_118 : decode cX1_tickOne 118 = .ok (.getfield 25, 3) := by decide +kernel
theorem dX1_tickOne_121 : decode cX1_tickOne 121 = .ok (.iload_n 2, 1) := by decide +kernel
theorem dX1_tickOne_122 : decode cX1_tickOne 122 = .ok (.dup2, 1) := by decide +kernel
theorem dX1_tickOne_123 : decode cX1_tickOne 123 = .ok (.iaload, 1) := by decide +kernel
theorem dX1_tickOne_124 : decode cX1_tickOne 124 = .ok (.aload_n 0, 1) := by decide +kernel
theorem dX1_tickOne_125 : decode cX1_tickOne 125 = .ok (.getfield 17, 3) := by decide +kernel
theorem dX1_tickOne_128 : decode cX1_tickOne 128 = .ok (.iload_n 2, 1) := by decide +kernel
theorem dX1_tickOne_129 : decode cX1_tickOne 129 = .ok (.iaload, 1) := by decide +kernel
theorem dX1_tickOne_130 : decode cX1_tickOne 130 = .ok (.iconst (-1), 1) := by decide +kernel
theorem dX1_tickOne_131 : decode cX1_tickOne 131 = .ok (.if_icmp .ne 16, 3) := by decide +kernel
theorem dX1_tickOne_134 : decode cX1_tickOne 134 = .ok (.aload_n 0, 1) := by decide +kernel
theorem dX1_tickOne_135 : decode cX1_tickOne 135 = .ok (.getfield 21, 3) := by decide +kernel
theorem dX1_tickOne_138 : decode cX1_tickOne 138 = .ok (.iload_n 2, 1) := by decide +kernel
theorem dX1_tickOne_139 : decode cX1_tickOne 139 = .ok (.baload, 1) := by decide +kernel
theorem dX1_tickOne_140 : decode cX1_tickOne 140 = .ok (.ifCond .ne 7, 3) := by decide +kernel
theorem dX1_tickOne_143 : decode cX1_tickOne 143 = .ok (.iconst 1, 1) := by decide +kernel
theorem dX1_tickOne_144 : decode cX1_tickOne 144 = .ok (.goto 4, 3) := by decide +kernel
theorem dX1_tickOne_147 : decode cX1_tickOne 147 = .ok (.iconst 0, 1) := by decide +kernel
theorem dX1_tickOne_148 : decode cX1_tickOne 148 = .ok (.iadd, 1) := by decide +kernel
theorem dX1_tickOne_149 : decode cX1_tickOne 149 = .ok (.iastore, 1) := by decide +kernel
theorem dX1_tickOne_150 : decode cX1_tickOne 150 = .ok (.aload_n 0, 1) := by decide +kernel
theorem dX1_tickOne_151 : decode cX1_tickOne 151 = .ok (.getfield 28, 3) := by decide +kernel
theorem dX1_tickOne_154 : decode cX1_tickOne 154 = .ok (.iload_n 2, 1) := by decide +kernel
theorem dX1_tickOne_155 : decode cX1_tickOne 155 = .ok (.dup2, 1) := by decide +kernel
theorem dX1_tickOne_156 : decode cX1_tickOne 156 = .ok (.iaload, 1) := by decide +kernel
theorem dX1_tickOne_157 : decode cX1_tickOne 157 = .ok (.aload_n 0, 1) := by decide +kernel
theorem dX1_tickOne_158 : decode cX1_tickOne 158 = .ok (.getfield 17, 3) := by decide +kernel
theorem dX1_tickOne_161 : decode cX1_tickOne 161 = .ok (.iload_n 2, 1) := by decide +kernel
theorem dX1_tickOne_162 : decode cX1_tickOne 162 = .ok (.iaload, 1) := by decide +kernel
theorem dX1_tickOne_163 : decode cX1_tickOne 163 = .ok (.iconst (-1), 1) := by decide +kernel
theorem dX1_tickOne_164 : decode cX1_tickOne 164 = .ok (.if_icmp .ne 16, 3) := by decide +kernel
theorem dX1_tickOne_167 : decode cX1_tickOne 167 = .ok (.aload_n 0, 1) := by decide +kernel
theorem dX1_tickOne_168 : decode cX1_tickOne 168 = .ok (.getfield 21, 3) := by decide +kernel
theorem dX1_tickOne_171 : decode cX1_tickOne 171 = .ok (.iload_n 2, 1) := by decide +kernel
theorem dX1_tickOne_172 : decode cX1_tickOne 172 = .ok (.baload, 1) := by decide +kernel
theorem dX1_tickOne_173 : decode cX1_tickOne 173 = .ok (.ifCond .eq 7, 3) := by decide +kernel
theorem dX1_tickOne_176 : decode cX1_tickOne 176 = .ok (.iconst 1, 1) := by decide +kernel
theorem dX1_tickOne_177 : decode cX1_tickOne 177 = .ok (.goto 4, 3) := by decide +kernel
theorem dX1_tickOne_180 : decode cX1_tickOne 180 = .ok (.iconst 0, 1) := by decide +kernel
theorem dX1_tickOne_181 : decode cX1_tickOne 181 = .ok (.iadd, 1) := by decide +kernel
theorem dX1_tickOne_182 : decode cX1_tickOne 182 = .ok (.iastore, 1) := by decide +kernel
theorem dX1_tickOne_183 : decode cX1_tickOne 183 = .ok (.iconst (-1), 1) := by decide +kernel
theorem dX1_tickOne_184 : decode cX1_tickOne 184 = .ok (.istore_n 3, 1) := by decide +kernel
theorem dX1_tickOne_185 : decode cX1_tickOne 185 = .ok (.iconst 0, 1) := by decide +kernel
theorem dX1_tickOne_186 : decode cX1_tickOne 186 = .ok (.istore 4, 2) := by decide +kernel
theorem dX1_tickOne_188 : decode cX1_tickOne 188 = .ok (.iload 4, 2) := by decide +kernel
theorem dX1_tickOne_190 : decode cX1_tickOne 190 = .ok (.aload_n 0, 1) := by decide +kernel
theorem dX1_tickOne_191 : decode cX1_tickOne 191 = .ok (.getfield 69, 3) := by decide +kernel
theorem dX1_tickOne_194 : decode cX1_tickOne 194 = .ok (.if_icmp .ge 58, 3) := by decide +kernel
theorem dX1_tickOne_197 : decode cX1_tickOne 197 = .ok (.aload_n 0, 1) := by decide +kernel
theorem dX1_tickOne_198 : decode cX1_tickOne 198 = .ok (.iload 4, 2) := by decide +kernel
theorem dX1_tickOne_200 : decode cX1_tickOne 200 = .ok (.invokevirtual 86, 3) := by decide +kernel
theorem dX1_tickOne_203 : decode cX1_tickOne 203 = .ok (.ifCond .eq 41, 3) := by decide +kernel
theorem dX1_tickOne_206 : decode cX1_tickOne 206 = .ok (.aload_n 0, 1) := by decide +kernel
theorem dX1_tickOne_207 : decode cX1_tickOne 207 = .ok (.getfield 34, 3) := by decide +kernel
theorem dX1_tickOne_210 : decode cX1_tickOne 210 = .ok (.iload 4, 2) := by decide +kernel
theorem dX1_tickOne_212 : decode cX1_tickOne 212 = .ok (.iaload, 1) := by decide +kernel
theorem dX1_tickOne_213 : decode cX1_tickOne 213 = .ok (.iload_n 2, 1) := by decide +kernel
theorem dX1_tickOne_214 : decode cX1_tickOne 214 = .ok (.if_icmp .ne 30, 3) := by decide +kernel
theorem dX1_tickOne_217 : decode cX1_tickOne 217 = .ok (.iload_n 3, 1) := by decide +kernel
theorem dX1_tickOne_218 : decode cX1_tickOne 218 = .ok (.iconst (-1), 1) := by decide +kernel
theorem dX1_tickOne_219 : decode cX1_tickOne 219 = .ok (.if_icmp .eq 20, 3) := by decide +kernel
theorem dX1_tickOne_222 : decode cX1_tickOne 222 = .ok (.aload_n 0, 1) := by decide +kernel
theorem dX1_tickOne_223 : decode cX1_tickOne 223 = .ok (.getfield 46, 3) := by decide +kernel
theorem dX1_tickOne_226 : decode cX1_tickOne 226 = .ok (.iload 4, 2) := by decide +kernel
theorem dX1_tickOne_228 : decode cX1_tickOne 228 = .ok (.laload, 1) := by decide +kernel
theorem dX1_tickOne_229 : decode cX1_tickOne 229 = .ok (.aload_n 0, 1) := by decide +kernel
theorem dX1_tickOne_230 : decode cX1_tickOne 230 = .ok (.getfield 46, 3) := by decide +kernel
theorem dX1_tickOne_233 : decode cX1_tickOne 233 = .ok (.iload_n 3, 1) := by decide +kernel
theorem dX1_tickOne_234 : decode cX1_tickOne 234 = .ok (.laload, 1) := by decide +kernel
theorem dX1_tickOne_235 : decode cX1_tickOne 235 = .ok (.lcmp, 1) := by decide +kernel
theorem dX1_tickOne_236 : decode cX1_tickOne 236 = .ok (.ifCond .ge 8, 3) := by decide +kernel
theorem dX1_tickOne_239 : decode cX1_tickOne 239 = .ok (.iload 4, 2) := by decide +kernel
theorem dX1_tickOne_241 : decode cX1_tickOne 241 = .ok (.goto 4, 3) := by decide +kernel
theorem dX1_tickOne_244 : decode cX1_tickOne 244 = .ok (.iload_n 3, 1) := by decide +kernel
theorem dX1_tickOne_245 : decode cX1_tickOne 245 = .ok (.istore_n 3, 1) := by decide +kernel
theorem dX1_tickOne_246 : decode cX1_tickOne 246 = .ok (.iinc 4 1, 3) := by decide +kernel
theorem dX1_tickOne_249 : decode cX1_tickOne 249 = .ok (.goto (-61), 3) := by decide +kernel
theorem dX1_tickOne_252 : decode cX1_tickOne 252 = .ok (.aload_n 0, 1) := by decide +kernel
theorem dX1_tickOne_253 : decode cX1_tickOne 253 = .ok (.getfield 13, 3) := by decide +kernel
theorem dX1_tickOne_256 : decode cX1_tickOne 256 = .ok (.iload_n 2, 1) := by decide +kernel
theorem dX1_tickOne_257 : decode cX1_tickOne 257 = .ok (.iload_n 3, 1) := by decide +kernel
theorem dX1_tickOne_258 : decode cX1_tickOne 258 = .ok (.iconst (-1), 1) := by decide +kernel
theorem dX1_tickOne_259 : decode cX1_tickOne 259 = .ok (.if_icmp .eq 28, 3) := by decide +kernel
theorem dX1_tickOne_262 : decode cX1_tickOne 262 = .ok (.aload_n 0, 1) := by decide +kernel
theorem dX1_tickOne_263 : decode cX1_tickOne 263 = .ok (.getfield 46, 3) := by decide +kernel
theorem dX1_tickOne_266 : decode cX1_tickOne 266 = .ok (.iload_n 3, 1) := by decide +kernel
theorem dX1_tickOne_267 : decode cX1_tickOne 267 = .ok (.laload, 1) := by decide +kernel
theorem dX1_tickOne_268 : decode cX1_tickOne 268 = .ok (.aload_n 0, 1) := by decide +kernel
theorem dX1_tickOne_269 : decode cX1_tickOne 269 = .ok (.getfield 13, 3) := by decide +kernel
theorem dX1_tickOne_272 : decode cX1_tickOne 272 = .ok (.iload_n 2, 1) := by decide +kernel
theorem dX1_tickOne_273 : decode cX1_tickOne 273 = .ok (.laload, 1) := by decide +kernel
theorem dX1_tickOne_274 : decode cX1_tickOne 274 = .ok (.lcmp, 1) := by decide +kernel
theorem dX1_tickOne_275 : decode cX1_tickOne 275 = .ok (.ifCond .le 12, 3) := by decide +kernel
theorem dX1_tickOne_278 : decode cX1_tickOne 278 = .ok (.aload_n 0, 1) := by decide +kernel
theorem dX1_tickOne_279 : decode cX1_tickOne 279 = .ok (.getfield 46, 3) := by decide +kernel
theorem dX1_tickOne_282 : decode cX1_tickOne 282 = .ok (.iload_n 3, 1) := by decide +kernel
theorem dX1_tickOne_283 : decode cX1_tickOne 283 = .ok (.laload, 1) := by decide +kernel
theorem dX1_tickOne_284 : decode cX1_tickOne 284 = .ok (.goto 9, 3) := by decide +kernel
theorem dX1_tickOne_287 : decode cX1_tickOne 287 = .ok (.aload_n 0, 1) := by decide +kernel
theorem dX1_tickOne_288 : decode cX1_tickOne 288 = .ok (.getfield 13, 3) := by decide +kernel
theorem dX1_tickOne_291 : decode cX1_tickOne 291 = .ok (.iload_n 2, 1) := by decide +kernel
theorem dX1_tickOne_292 : decode cX1_tickOne 292 = .ok (.laload, 1) := by decide +kernel
theorem dX1_tickOne_293 : decode cX1_tickOne 293 = .ok (.lastore, 1) := by decide +kernel
theorem dX1_tickOne_294 : decode cX1_tickOne 294 = .ok (.iinc 2 1, 3) := by decide +kernel
theorem dX1_tickOne_297 : decode cX1_tickOne 297 = .ok (.goto (-190), 3) := by decide +kernel
theorem dX1_tickOne_300 : decode cX1_tickOne 300 = .ok (.iload_n 1, 1) := by decide +kernel
theorem dX1_tickOne_301 : decode cX1_tickOne 301 = .ok (.ireturn, 1) := by decide +kernel
theorem dX1_tick_0 : decode cX1_tick 0 = .ok (.aload_n 0, 1) := by decide +kernel
theorem dX1_tick_1 : decode cX1_tick 1 = .ok (.iload_n 1, 1) := by decide +kernel
theorem dX1_tick_2 : decode cX1_tick 2 = .ok (.i2l, 1) := by decide +kernel
theorem dX1_tick_3 : decode cX1_tick 3 = .ok (.lconst 1, 1) := by decide +kernel
theorem dX1_tick_4 : decode cX1_tick 4 = .ok (.ldc2_w 115, 3) := by decide +kernel
theorem dX1_tick_7 : decode cX1_tick 7 = .ok (.invokestatic 72, 3) := by decide +kernel
theorem dX1_tick_10 : decode cX1_tick 10 = .ok (.ifCond .ne 7, 3) := by decide +kernel
theorem dX1_tick_13 : decode cX1_tick 13 = .ok (.iconst 1, 1) := by decide +kernel
theorem dX1_tick_14 : decode cX1_tick 14 = .ok (.goto 4, 3) := by decide +kernel
theorem dX1_tick_17 : decode cX1_tick 17 = .ok (.iconst 0, 1) := by decide +kernel
theorem dX1_tick_18 : decode cX1_tick 18 = .ok (.iconst 0, 1) := by decide +kernel
theorem dX1_tick_19 : decode cX1_tick 19 = .ok (.invokevirtual 78, 3) := by decide +kernel
theorem dX1_tick_22 : decode cX1_tick 22 = .ok (.ifCond .eq 5, 3) := by decide +kernel
theorem dX1_tick_25 : decode cX1_tick 25 = .ok (.iconst 0, 1) := by decide +kernel
theorem dX1_tick_26 : decode cX1_tick 26 = .ok (.ireturn, 1) := by decide +kernel
theorem dX1_tick_27 : decode cX1_tick 27 = .ok (.iconst 0, 1) := by decide +kernel
theorem dX1_tick_28 : decode cX1_tick 28 = .ok (.istore_n 2, 1) := by decide +kernel
theorem dX1_tick_29 : decode cX1_tick 29 = .ok (.iconst 0, 1) := by decide +kernel
theorem dX1_tick_30 : decode cX1_tick 30 = .ok (.istore_n 3, 1) := by decide +kernel
theorem dX1_tick_31 : decode cX1_tick 31 = .ok (.iload_n 3, 1) := by decide +kernel
theorem dX1_tick_32 : decode cX1_tick 32 = .ok (.iload_n 1, 1) := by decide +kernel
theorem dX1_tick_33 : decode cX1_tick 33 = .ok (.if_icmp .ge 16, 3) := by decide +kernel
theorem dX1_tick_36 : decode cX1_tick 36 = .ok (.iload_n 2, 1) := by decide +kernel
theorem dX1_tick_37 : decode cX1_tick 37 = .ok (.aload_n 0, 1) := by decide +kernel
theorem dX1_tick_38 : decode cX1_tick 38 = .ok (.invokevirtual 117, 3) := by decide +kernel
theorem dX1_tick_41 : decode cX1_tick 41 = .ok (.iadd, 1) := by decide +kernel
theorem dX1_tick_42 : decode cX1_tick 42 = .ok (.istore_n 2, 1) := by decide +kernel
theorem dX1_tick_43 : decode cX1_tick 43 = .ok (.iinc 3 1, 3) := by decide +kernel
theorem dX1_tick_46 : decode cX1_tick 46 = .ok (.goto (-15), 3) := by decide +kernel
theorem dX1_tick_49 : decode cX1_tick 49 = .ok (.iload_n 2, 1) := by decide +kernel
theorem dX1_tick_50 : decode cX1_tick 50 = .ok (.ireturn, 1) := by decide +kernel
theorem dX1_noWeight_0 : decode cX1_noWeight 0 = .ok (.iload_n 0, 1) := by decide +kernel
theorem dX1_noWeight_1 : decode cX1_noWeight 1 = .ok (.i2l, 1) := by decide +kernel
theorem dX1_noWeight_2 : decode cX1_noWeight 2 = .ok (.lconst 1, 1) := by decide +kernel
theorem dX1_noWeight_3 : decode cX1_noWeight 3 = .ok (.ldc2_w 121, 3) := by decide +kernel
theorem dX1_noWeight_6 : decode cX1_noWeight 6 = .ok (.invokestatic 72, 3) := by decide +kernel
theorem dX1_noWeight_9 : decode cX1_noWeight 9 = .ok (.ifCond .ne 7, 3) := by decide +kernel
theorem dX1_noWeight_12 : decode cX1_noWeight 12 = .ok (.iconst 1, 1) := by decide +kernel
theorem dX1_noWeight_13 : decode cX1_noWeight 13 = .ok (.goto 4, 3) := by decide +kernel
theorem dX1_noWeight_16 : decode cX1_noWeight 16 = .ok (.iconst 0, 1) := by decide +kernel
theorem dX1_noWeight_17 : decode cX1_noWeight 17 = .ok (.ireturn, 1) := by decide +kernel
theorem dX1_noCookie_0 : decode cX1_noCookie 0 = .ok (.iload_n 0, 1) := by decide +kernel
theorem dX1_noCookie_1 : decode cX1_noCookie 1 = .ok (.i2l, 1) := by decide +kernel
theorem dX1_noCookie_2 : decode cX1_noCookie 2 = .ok (.lconst 0, 1) := by decide +kernel
theorem dX1_noCookie_3 : decode cX1_noCookie 3 = .ok (.ldc2_w 123, 3) := by decide +kernel
theorem dX1_noCookie_6 : decode cX1_noCookie 6 = .ok (.invokestatic 72, 3) := by decide +kernel
theorem dX1_noCookie_9 : decode cX1_noCookie 9 = .ok (.ifCond .ne 7, 3) := by decide +kernel
theorem dX1_noCookie_12 : decode cX1_noCookie 12 = .ok (.iconst 1, 1) := by decide +kernel
theorem dX1_noCookie_13 : decode cX1_noCookie 13 = .ok (.goto 4, 3) := by decide +kernel
theorem dX1_noCookie_16 : decode cX1_noCookie 16 = .ok (.iconst 0, 1) := by decide +kernel
theorem dX1_noCookie_17 : decode cX1_noCookie 17 = .ok (.ireturn, 1) := by decide +kernel
theorem dX1_createTask_0 : decode cX1_createTask 0 = .ok (.aload_n 0, 1) := by decide +kernel
theorem dX1_createTask_1 : decode cX1_createTask 1 = .ok (.aload_n 0, 1) := by decide +kernel
theorem dX1_createTask_2 : decode cX1_createTask 2 = .ok (.iload_n 1, 1) := by decide +kernel
theorem dX1_createTask_3 : decode cX1_createTask 3 = .ok (.invokevirtual 125, 3) := by decide +kernel
theorem dX1_createTask_6 : decode cX1_createTask 6 = .ok (.ifCond .ne 17, 3) := by decide +kernel
theorem dX1_createTask_9 : decode cX1_createTask 9 = .ok (.iload_n 2, 1) := by decide +kernel
theorem dX1_createTask_10 : decode cX1_createTask 10 = .ok (.invokestatic 128, 3) := by decide +kernel
theorem dX1_createTask_13 : decode cX1_createTask 13 = .ok (.ifCond .ne 10, 3) := by decide +kernel
theorem dX1_createTask_16 : decode cX1_createTask 16 = .ok (.iload_n 3, 1) := by decide +kernel
theorem dX1_createTask_17 : decode cX1_createTask 17 = .ok (.invokestatic 131, 3) := by decide +kernel
theorem dX1_createTask_20 : decode cX1_createTask 20 = .ok (.ifCond .eq 7, 3) := by decide +kernel
theorem dX1_createTask_23 : decode cX1_createTask 23 = .ok (.iconst 1, 1) := by decide +kernel
theorem dX1_createTask_24 : decode cX1_createTask 24 = .ok (.goto 4, 3) := by decide +kernel
theorem dX1_createTask_27 : decode cX1_createTask 27 = .ok (.iconst 0, 1) := by decide +kernel
theorem dX1_createTask_28 : decode cX1_createTask 28 = .ok (.aload_n 0, 1) := by decide +kernel
theorem dX1_createTask_29 : decode cX1_createTask 29 = .ok (.getfield 69, 3) := by decide +kernel
theorem dX1_createTask_32 : decode cX1_createTask 32 = .ok (.bipush 16, 2) := by decide +kernel
theorem dX1_createTask_34 : decode cX1_createTask 34 = .ok (.if_icmp .ne 7, 3) := by decide +kernel
theorem dX1_createTask_37 : decode cX1_createTask 37 = .ok (.iconst 1, 1) := by decide +kernel
theorem dX1_createTask_38 : decode cX1_createTask 38 = .ok (.goto 4, 3) := by decide +kernel
theorem dX1_createTask_41 : decode cX1_createTask 41 = .ok (.iconst 0, 1) := by decide +kernel
theorem dX1_createTask_42 : decode cX1_createTask 42 = .ok (.invokevirtual 78, 3) := by decide +kernel
theorem dX1_createTask_45 : decode cX1_createTask 45 = .ok (.ifCond .eq 5, 3) := by decide +kernel
theorem dX1_createTask_48 : decode cX1_createTask 48 = .ok (.iconst 0, 1) := by decide +kernel
theorem dX1_createTask_49 : decode cX1_createTask 49 = .ok (.ireturn, 1) := by decide +kernel
theorem dX1_createTask_50 : decode cX1_createTask 50 = .ok (.aload_n 0, 1) := by decide +kernel
theorem dX1_createTask_51 : decode cX1_createTask 51 = .ok (.getfield 69, 3) := by decide +kernel
theorem dX1_createTask_54 : decode cX1_createTask 54 = .ok (.istore 4, 2) := by decide +kernel
theorem dX1_createTask_56 : decode cX1_createTask 56 = .ok (.aload_n 0, 1) := by decide +kernel
theorem dX1_createTask_57 : decode cX1_createTask 57 = .ok (.dup, 1) := by decide +kernel
theorem dX1_createTask_58 : decode cX1_createTask 58 = .ok (.getfield 69, 3) := by decide +kernel
theorem dX1_createTask_61 : decode cX1_createTask 61 = .ok (.iconst 1, 1) := by decide +kernel
theorem dX1_createTask_62 : decode cX1_createTask 62 = .ok (.iadd, 1) := by decide +kernel
theorem dX1_createTask_63 : decode cX1_createTask 63 = .ok (.putfield 69, 3) := by decide +kernel
theorem dX1_createTask_66 : decode cX1_createTask 66 = .ok (.aload_n 0, 1) := by decide +kernel
theorem dX1_createTask_67 : decode cX1_createTask 67 = .ok (.getfield 34, 3) := by decide +kernel
theorem dX1_createTask_70 : decode cX1_createTask 70 = .ok (.iload 4, 2) := by decide +kernel
theorem dX1_createTask_72 : decode cX1_createTask 72 = .ok (.iload_n 1, 1) := by decide +kernel
theorem dX1_createTask_73 : decode cX1_createTask 73 = .ok (.iastore, 1) := by decide +kernel
theorem dX1_createTask_74 : decode cX1_createTask 74 = .ok (.aload_n 0, 1) := by decide +kernel
theorem dX1_createTask_75 : decode cX1_createTask 75 = .ok (.getfield 37, 3) := by decide +kernel
theorem dX1_createTask_78 : decode cX1_createTask 78 = .ok (.iload 4, 2) := by decide +kernel
theorem dX1_createTask_80 : decode cX1_createTask 80 = .ok (.iload_n 2, 1) := by decide +kernel
theorem dX1_createTask_81 : decode cX1_createTask 81 = .ok (.iastore, 1) := by decide +kernel
theorem dX1_createTask_82 : decode cX1_createTask 82 = .ok (.aload_n 0, 1) := by decide +kernel
theorem dX1_createTask_83 : decode cX1_createTask 83 = .ok (.getfield 40, 3) := by decide +kernel
theorem dX1_createTask_86 : decode cX1_createTask 86 = .ok (.iload 4, 2) := by decide +kernel
theorem dX1_createTask_88 : decode cX1_createTask 88 = .ok (.iload_n 3, 1) := by decide +kernel
theorem dX1_createTask_89 : decode cX1_createTask 89 = .ok (.iastore, 1) := by decide +kernel
theorem dX1_createTask_90 : decode cX1_createTask 90 = .ok (.aload_n 0, 1) := by decide +kernel
theorem dX1_createTask_91 : decode cX1_createTask 91 = .ok (.getfield 43, 3) := by decide +kernel
theorem dX1_createTask_94 : decode cX1_createTask 94 = .ok (.iload 4, 2) := by decide +kernel
theorem dX1_createTask_96 : decode cX1_createTask 96 = .ok (.iconst 0, 1) := by decide +kernel
theorem dX1_createTask_97 : decode cX1_createTask 97 = .ok (.iastore, 1) := by decide +kernel
theorem dX1_createTask_98 : decode cX1_createTask 98 = .ok (.aload_n 0, 1) := by decide +kernel
theorem dX1_createTask_99 : decode cX1_createTask 99 = .ok (.getfield 46, 3) := by decide +kernel
theorem dX1_createTask_102 : decode cX1_createTask 102 = .ok (.iload 4, 2) := by decide +kernel
theorem dX1_createTask_104 : decode cX1_createTask 104 = .ok (.aload_n 0, 1) := by decide +kernel
theorem dX1_createTask_105 : decode cX1_createTask 105 = .ok (.getfield 13, 3) := by decide +kernel
theorem dX1_createTask_108 : decode cX1_createTask 108 = .ok (.iload_n 1, 1) := by decide +kernel
theorem dX1_createTask_109 : decode cX1_createTask 109 = .ok (.laload, 1) := by decide +kernel
theorem dX1_createTask_110 : decode cX1_createTask 110 = .ok (.lconst 0, 1) := by decide +kernel
theorem dX1_createTask_111 : decode cX1_createTask 111 = .ok (.lcmp, 1) := by decide +kernel
theorem dX1_createTask_112 : decode cX1_createTask 112 = .ok (.ifCond .le 12, 3) := by decide +kernel
theorem dX1_createTask_115 : decode cX1_createTask 115 = .ok (.aload_n 0, 1) := by decide +kernel
theorem dX1_createTask_116 : decode cX1_createTask 116 = .ok (.getfield 13, 3) := by decide +kernel
theorem dX1_createTask_119 : decode cX1_createTask 119 = .ok (.iload_n 1, 1) := by decide +kernel
theorem dX1_createTask_120 : decode cX1_createTask 120 = .ok (.laload, 1) := by decide +kernel
theorem dX1_createTask_121 : decode cX1_createTask 121 = .ok (.goto 4, 3) := by decide +kernel
theorem dX1_createTask_124 : decode cX1_createTask 124 = .ok (.lconst 0, 1) := by decide +kernel
theorem dX1_createTask_125 : decode cX1_createTask 125 = .ok (.lastore, 1) := by decide +kernel
theorem dX1_createTask_126 : decode cX1_createTask 126 = .ok (.aload_n 0, 1) := by decide +kernel
theorem dX1_createTask_127 : decode cX1_createTask 127 = .ok (.getfield 49, 3) := by decide +kernel
theorem dX1_createTask_130 : decode cX1_createTask 130 = .ok (.iload 4, 2) := by decide +kernel
theorem dX1_createTask_132 : decode cX1_createTask 132 = .ok (.iconst 0, 1) := by decide +kernel
theorem dX1_createTask_133 : decode cX1_createTask 133 = .ok (.iastore, 1) := by decide +kernel
theorem dX1_createTask_134 : decode cX1_createTask 134 = .ok (.aload_n 0, 1) := by decide +kernel
theorem dX1_createTask_135 : decode cX1_createTask 135 = .ok (.getfield 52, 3) := by decide +kernel
theorem dX1_createTask_138 : decode cX1_createTask 138 = .ok (.iload 4, 2) := by decide +kernel
theorem dX1_createTask_140 : decode cX1_createTask 140 = .ok (.iconst 0, 1) := by decide +kernel
theorem dX1_createTask_141 : decode cX1_createTask 141 = .ok (.iastore, 1) := by decide +kernel
theorem dX1_createTask_142 : decode cX1_createTask 142 = .ok (.iload 4, 2) := by decide +kernel
theorem dX1_createTask_144 : decode cX1_createTask 144 = .ok (.ireturn, 1) := by decide +kernel
theorem dX1_becomes_0 : decode cX1_becomes 0 = .ok (.aload_n 0, 1) := by decide +kernel
theorem dX1_becomes_1 : decode cX1_becomes 1 = .ok (.getfield 43, 3) := by decide +kernel
theorem dX1_becomes_4 : decode cX1_becomes 4 = .ok (.iload_n 1, 1) := by decide +kernel
theorem dX1_becomes_5 : decode cX1_becomes 5 = .ok (.iaload, 1) := by decide +kernel
theorem dX1_becomes_6 : decode cX1_becomes 6 = .ok (.istore_n 3, 1) := by decide +kernel
theorem dX1_becomes_7 : decode cX1_becomes 7 = .ok (.iload_n 3, 1) := by decide +kernel
theorem dX1_becomes_8 : decode cX1_becomes 8 = .ok (.iconst 1, 1) := by decide +kernel
theorem dX1_becomes_9 : decode cX1_becomes 9 = .ok (.if_icmp .ne 15, 3) := by decide +kernel
theorem dX1_becomes_12 : decode cX1_becomes 12 = .ok (.aload_n 0, 1) := by decide +kernel
theorem dX1_becomes_13 : decode cX1_becomes 13 = .ok (.getfield 17, 3) := by decide +kernel
theorem dX1_becomes_16 : decode cX1_becomes 16 = .ok (.aload_n 0, 1) := by decide +kernel
theorem dX1_becomes_17 : decode cX1_becomes 17 = .ok (.getfield 34, 3) := by decide +kernel
theorem dX1_becomes_20 : decode cX1_becomes 20 = .ok (.iload_n 1, 1) := by decide +kernel
theorem dX1_becomes_21 : decode cX1_becomes 21 = .ok (.iaload, 1) := by decide +kernel
theorem dX1_becomes_22 : decode cX1_becomes 22 = .ok (.iconst (-1), 1) := by decide +kernel
theorem dX1_becomes_23 : decode cX1_becomes 23 = .ok (.iastore, 1) := by decide +kernel
theorem dX1_becomes_24 : decode cX1_becomes 24 = .ok (.aload_n 0, 1) := by decide +kernel
theorem dX1_becomes_25 : decode cX1_becomes 25 = .ok (.getfield 43, 3) := by decide +kernel
theorem dX1_becomes_28 : decode cX1_becomes 28 = .ok (.iload_n 1, 1) := by decide +kernel
theorem dX1_becomes_29 : decode cX1_becomes 29 = .ok (.iload_n 2, 1) := by decide +kernel
theorem dX1_becomes_30 : decode cX1_becomes 30 = .ok (.iastore, 1) := by decide +kernel
theorem dX1_becomes_31 : decode cX1_becomes 31 = .ok (.iload_n 3, 1) := by decide +kernel
theorem dX1_becomes_32 : decode cX1_becomes 32 = .ok (.ireturn, 1) := by decide +kernel
theorem dX1_sleep_0 : decode cX1_sleep 0 = .ok (.aload_n 0, 1) := by decide +kernel
theorem dX1_sleep_1 : decode cX1_sleep 1 = .ok (.aload_n 0, 1) := by decide +kernel
theorem dX1_sleep_2 : decode cX1_sleep 2 = .ok (.iload_n 1, 1) := by decide +kernel
theorem dX1_sleep_3 : decode cX1_sleep 3 = .ok (.invokevirtual 134, 3) := by decide +kernel
theorem dX1_sleep_6 : decode cX1_sleep 6 = .ok (.aload_n 0, 1) := by decide +kernel
theorem dX1_sleep_7 : decode cX1_sleep 7 = .ok (.iload_n 1, 1) := by decide +kernel
theorem dX1_sleep_8 : decode cX1_sleep 8 = .ok (.invokevirtual 134, 3) := by decide +kernel
theorem dX1_sleep_11 : decode cX1_sleep 11 = .ok (.ifCond .ne 15, 3) := by decide +kernel
theorem dX1_sleep_14 : decode cX1_sleep 14 = .ok (.aload_n 0, 1) := by decide +kernel
theorem dX1_sleep_15 : decode cX1_sleep 15 = .ok (.iload_n 1, 1) := by decide +kernel
theorem dX1_sleep_16 : decode cX1_sleep 16 = .ok (.invokevirtual 86, 3) := by decide +kernel
theorem dX1_sleep_19 : decode cX1_sleep 19 = .ok (.ifCond .ne 7, 3) := by decide +kernel
theorem dX1_sleep_22 : decode cX1_sleep 22 = .ok (.iconst 1, 1) := by decide +kernel
theorem dX1_sleep_23 : decode cX1_sleep 23 = .ok (.goto 4, 3) := by decide +kernel
theorem dX1_sleep_26 : decode cX1_sleep 26 = .ok (.iconst 0, 1) := by decide +kernel
theorem dX1_sleep_27 : decode cX1_sleep 27 = .ok (.invokevirtual 78, 3) := by decide +kernel
theorem dX1_sleep_30 : decode cX1_sleep 30 = .ok (.ifCond .eq 5, 3) := by decide +kernel
theorem dX1_sleep_33 : decode cX1_sleep 33 = .ok (.iconst 0, 1) := by decide +kernel
theorem dX1_sleep_34 : decode cX1_sleep 34 = .ok (.ireturn, 1) := by decide +kernel
theorem dX1_sleep_35 : decode cX1_sleep 35 = .ok (.aload_n 0, 1) := by decide +kernel
theorem dX1_sleep_36 : decode cX1_sleep 36 = .ok (.iload_n 1, 1) := by decide +kernel
theorem dX1_sleep_37 : decode cX1_sleep 37 = .ok (.iconst 2, 1) := by decide +kernel
theorem dX1_sleep_38 : decode cX1_sleep 38 = .ok (.invokevirtual 137, 3) := by decide +kernel
theorem dX1_sleep_41 : decode cX1_sleep 41 = .ok (.ireturn, 1) := by decide +kernel
theorem dX1_wake_0 : decode cX1_wake 0 = .ok (.aload_n 0, 1) := by decide +kernel
theorem dX1_wake_1 : decode cX1_wake 1 = .ok (.aload_n 0, 1) := by decide +kernel
theorem dX1_wake_2 : decode cX1_wake 2 = .ok (.iload_n 1, 1) := by decide +kernel
theorem dX1_wake_3 : decode cX1_wake 3 = .ok (.invokevirtual 134, 3) := by decide +kernel
theorem dX1_wake_6 : decode cX1_wake 6 = .ok (.aload_n 0, 1) := by decide +kernel
theorem dX1_wake_7 : decode cX1_wake 7 = .ok (.iload_n 1, 1) := by decide +kernel
theorem dX1_wake_8 : decode cX1_wake 8 = .ok (.invokevirtual 134, 3) := by decide +kernel
theorem dX1_wake_11 : decode cX1_wake 11 = .ok (.ifCond .ne 17, 3) := by decide +kernel
theorem dX1_wake_14 : decode cX1_wake 14 = .ok (.aload_n 0, 1) := by decide +kernel
theorem dX1_wake_15 : decode cX1_wake 15 = .ok (.getfield 43, 3) := by decide +kernel
theorem dX1_wake_18 : decode cX1_wake 18 = .ok (.iload_n 1, 1) := by decide +kernel
theorem dX1_wake_19 : decode cX1_wake 19 = .ok (.iaload, 1) := by decide +kernel
theorem dX1_wake_20 : decode cX1_wake 20 = .ok (.iconst 2, 1) := by decide +kernel
theorem dX1_wake_21 : decode cX1_wake 21 = .ok (.if_icmp .eq 7, 3) := by decide +kernel
theorem dX1_wake_24 : decode cX1_wake 24 = .ok (.iconst 1, 1) := by decide +kernel
theorem dX1_wake_25 : decode cX1_wake 25 = .ok (.goto 4, 3) := by decide +kernel
theorem dX1_wake_28 : decode cX1_wake 28 = .ok (.iconst 0, 1) := by decide +kernel
theorem dX1_wake_29 : decode cX1_wake 29 = .ok (.invokevirtual 78, 3) := by decide +kernel
theorem dX1_wake_32 : decode cX1_wake 32 = .ok (.ifCond .eq 5, 3) := by decide +kernel
theorem dX1_wake_35 : decode cX1_wake 35 = .ok (.lconst 0, 1) := by decide +kernel
theorem dX1_wake_36 : decode cX1_wake 36 = .ok (.lreturn, 1) := by decide +kernel
theorem dX1_wake_37 : decode cX1_wake 37 = .ok (.aload_n 0, 1) := by decide +kernel
theorem dX1_wake_38 : decode cX1_wake 38 = .ok (.getfield 43, 3) := by decide +kernel
theorem dX1_wake_41 : decode cX1_wake 41 = .ok (.iload_n 1, 1) := by decide +kernel
theorem dX1_wake_42 : decode cX1_wake 42 = .ok (.iconst 0, 1) := by decide +kernel
theorem dX1_wake_43 : decode cX1_wake 43 = .ok (.iastore, 1) := by decide +kernel
theorem dX1_wake_44 : decode cX1_wake 44 = .ok (.aload_n 0, 1) := by decide +kernel
theorem dX1_wake_45 : decode cX1_wake 45 = .ok (.getfield 46, 3) := by decide +kernel
theorem dX1_wake_48 : decode cX1_wake 48 = .ok (.iload_n 1, 1) := by decide +kernel
theorem dX1_wake_49 : decode cX1_wake 49 = .ok (.aload_n 0, 1) := by decide +kernel
theorem dX1_wake_50 : decode cX1_wake 50 = .ok (.getfield 46, 3) := by decide +kernel
theorem dX1_wake_53 : decode cX1_wake 53 = .ok (.iload_n 1, 1) := by decide +kernel
theorem dX1_wake_54 : decode cX1_wake 54 = .ok (.laload, 1) := by decide +kernel
theorem dX1_wake_55 : decode cX1_wake 55 = .ok (.aload_n 0, 1) := by decide +kernel
theorem dX1_wake_56 : decode cX1_wake 56 = .ok (.getfield 13, 3) := by decide +kernel
theorem dX1_wake_59 : decode cX1_wake 59 = .ok (.aload_n 0, 1) := by decide +kernel
theorem dX1_wake_60 : decode cX1_wake 60 = .ok (.getfield 34, 3) := by decide +kernel
theorem dX1_wake_63 : decode cX1_wake 63 = .ok (.iload_n 1, 1) := by decide +kernel
theorem dX1_wake_64 : decode cX1_wake 64 = .ok (.iaload, 1) := by decide +kernel
theorem dX1_wake_65 : decode cX1_wake 65 = .ok (.laload, 1) := by decide +kernel
theorem dX1_wake_66 : decode cX1_wake 66 = .ok (.lcmp, 1) := by decide +kernel
theorem dX1_wake_67 : decode cX1_wake 67 = .ok (.ifCond .le 12, 3) := by decide +kernel
theorem dX1_wake_70 : decode cX1_wake 70 = .ok (.aload_n 0, 1) := by decide +kernel
theorem dX1_wake_71 : decode cX1_wake 71 = .ok (.getfield 46, 3) := by decide +kernel
theorem dX1_wake_74 : decode cX1_wake 74 = .ok (.iload_n 1, 1) := by decide +kernel
theorem dX1_wake_75 : decode cX1_wake 75 = .ok (.laload, 1) := by decide +kernel
theorem dX1_wake_76 : decode cX1_wake 76 = .ok (.goto 14, 3) := by decide +kernel
theorem dX1_wake_79 : decode cX1_wake 79 = .ok (.aload_n 0, 1) := by decide +kernel
theorem dX1_wake_80 : decode cX1_wake 80 = .ok (.getfield 13, 3) := by decide +kernel
theorem dX1_wake_83 : decode cX1_wake 83 = .ok (.aload_n 0, 1) := by decide +kernel
theorem dX1_wake_84 : decode cX1_wake 84 = .ok (.getfield 34, 3) := by decide +kernel
theorem dX1_wake_87 : decode cX1_wake 87 = .ok (.iload_n 1, 1) := by decide +kernel
theorem dX1_wake_88 : decode cX1_wake 88 = .ok (.iaload, 1) := by decide +kernel
theorem dX1_wake_89 : decode cX1_wake 89 = .ok (.laload, 1) := by decide +kernel
theorem dX1_wake_90 : decode cX1_wake 90 = .ok (.lastore, 1) := by decide +kernel
theorem dX1_wake_91 : decode cX1_wake 91 = .ok (.aload_n 0, 1) := by decide +kernel
theorem dX1_wake_92 : decode cX1_wake 92 = .ok (.getfield 46, 3) := by decide +kernel
theorem dX1_wake_95 : decode cX1_wake 95 = .ok (.iload_n 1, 1) := by decide +kernel
theorem dX1_wake_96 : decode cX1_wake 96 = .ok (.laload, 1) := by decide +kernel
theorem dX1_wake_97 : decode cX1_wake 97 = .ok (.lreturn, 1) := by decide +kernel
theorem dX1_hasExited_0 : decode cX1_hasExited 0 = .ok (.aload_n 0, 1) := by decide +kernel
theorem dX1_hasExited_1 : decode cX1_hasExited 1 = .ok (.iload_n 1, 1) := by decide +kernel
theorem dX1_hasExited_2 : decode cX1_hasExited 2 = .ok (.invokevirtual 134, 3) := by decide +kernel
theorem dX1_hasExited_5 : decode cX1_hasExited 5 = .ok (.ifCond .ne 17, 3) := by decide +kernel
theorem dX1_hasExited_8 : decode cX1_hasExited 8 = .ok (.aload_n 0, 1) := by decide +kernel
theorem dX1_hasExited_9 : decode cX1_hasExited 9 = .ok (.getfield 43, 3) := by decide +kernel
theorem dX1_hasExited_12 : decode cX1_hasExited 12 = .ok (.iload_n 1, 1) := by decide +kernel
theorem dX1_hasExited_13 : decode cX1_hasExited 13 = .ok (.iaload, 1) := by decide +kernel
theorem dX1_hasExited_14 : decode cX1_hasExited 14 = .ok (.iconst 3, 1) := by decide +kernel
theorem dX1_hasExited_15 : decode cX1_hasExited 15 = .ok (.if_icmp .ne 7, 3) := by decide +kernel
theorem dX1_hasExited_18 : decode cX1_hasExited 18 = .ok (.iconst 1, 1) := by decide +kernel
theorem dX1_hasExited_19 : decode cX1_hasExited 19 = .ok (.goto 4, 3) := by decide +kernel
theorem dX1_hasExited_22 : decode cX1_hasExited 22 = .ok (.iconst 0, 1) := by decide +kernel
theorem dX1_hasExited_23 : decode cX1_hasExited 23 = .ok (.ireturn, 1) := by decide +kernel
theorem dX1_exit_0 : decode cX1_exit 0 = .ok (.aload_n 0, 1) := by decide +kernel
theorem dX1_exit_1 : decode cX1_exit 1 = .ok (.aload_n 0, 1) := by decide +kernel
theorem dX1_exit_2 : decode cX1_exit 2 = .ok (.iload_n 1, 1) := by decide +kernel
theorem dX1_exit_3 : decode cX1_exit 3 = .ok (.invokevirtual 134, 3) := by decide +kernel
theorem dX1_exit_6 : decode cX1_exit 6 = .ok (.aload_n 0, 1) := by decide +kernel
theorem dX1_exit_7 : decode cX1_exit 7 = .ok (.iload_n 1, 1) := by decide +kernel
theorem dX1_exit_8 : decode cX1_exit 8 = .ok (.invokevirtual 140, 3) := by decide +kernel
theorem dX1_exit_11 : decode cX1_exit 11 = .ok (.invokevirtual 78, 3) := by decide +kernel
theorem dX1_exit_14 : decode cX1_exit 14 = .ok (.ifCond .eq 5, 3) := by decide +kernel
theorem dX1_exit_17 : decode cX1_exit 17 = .ok (.iconst 0, 1) := by decide +kernel
theorem dX1_exit_18 : decode cX1_exit 18 = .ok (.ireturn, 1) := by decide +kernel
theorem dX1_exit_19 : decode cX1_exit 19 = .ok (.aload_n 0, 1) := by decide +kernel
theorem dX1_exit_20 : decode cX1_exit 20 = .ok (.iload_n 1, 1) := by decide +kernel
theorem dX1_exit_21 : decode cX1_exit 21 = .ok (.iconst 3, 1) := by decide +kernel
theorem dX1_exit_22 : decode cX1_exit 22 = .ok (.invokevirtual 137, 3) := by decide +kernel
theorem dX1_exit_25 : decode cX1_exit 25 = .ok (.ireturn, 1) := by decide +kernel
theorem dX1_setWeight_0 : decode cX1_setWeight 0 = .ok (.aload_n 0, 1) := by decide +kernel
theorem dX1_setWeight_1 : decode cX1_setWeight 1 = .ok (.aload_n 0, 1) := by decide +kernel
theorem dX1_setWeight_2 : decode cX1_setWeight 2 = .ok (.iload_n 1, 1) := by decide +kernel
theorem dX1_setWeight_3 : decode cX1_setWeight 3 = .ok (.invokevirtual 134, 3) := by decide +kernel
theorem dX1_setWeight_6 : decode cX1_setWeight 6 = .ok (.ifCond .ne 10, 3) := by decide +kernel
theorem dX1_setWeight_9 : decode cX1_setWeight 9 = .ok (.iload_n 2, 1) := by decide +kernel
theorem dX1_setWeight_10 : decode cX1_setWeight 10 = .ok (.invokestatic 128, 3) := by decide +kernel
theorem dX1_setWeight_13 : decode cX1_setWeight 13 = .ok (.ifCond .eq 7, 3) := by decide +kernel
theorem dX1_setWeight_16 : decode cX1_setWeight 16 = .ok (.iconst 1, 1) := by decide +kernel
theorem dX1_setWeight_17 : decode cX1_setWeight 17 = .ok (.goto 4, 3) := by decide +kernel
theorem dX1_setWeight_20 : decode cX1_setWeight 20 = .ok (.iconst 0, 1) := by decide +kernel
theorem dX1_setWeight_21 : decode cX1_setWeight 21 = .ok (.aload_n 0, 1) := by decide +kernel
theorem dX1_setWeight_22 : decode cX1_setWeight 22 = .ok (.iload_n 1, 1) := by decide +kernel
theorem dX1_setWeight_23 : decode cX1_setWeight 23 = .ok (.invokevirtual 140, 3) := by decide +kernel
theorem dX1_setWeight_26 : decode cX1_setWeight 26 = .ok (.invokevirtual 78, 3) := by decide +kernel
theorem dX1_setWeight_29 : decode cX1_setWeight 29 = .ok (.ifCond .eq 5, 3) := by decide +kernel
theorem dX1_setWeight_32 : decode cX1_setWeight 32 = .ok (.iconst 0, 1) := by decide +kernel
theorem dX1_setWeight_33 : decode cX1_setWeight 33 = .ok (.ireturn, 1) := by decide +kernel
theorem dX1_setWeight_34 : decode cX1_setWeight 34 = .ok (.aload_n 0, 1) := by decide +kernel
theorem dX1_setWeight_35 : decode cX1_setWeight 35 = .ok (.getfield 37, 3) := by decide +kernel
theorem dX1_setWeight_38 : decode cX1_setWeight 38 = .ok (.iload_n 1, 1) := by decide +kernel
theorem dX1_setWeight_39 : decode cX1_setWeight 39 = .ok (.iaload, 1) := by decide +kernel
theorem dX1_setWeight_40 : decode cX1_setWeight 40 = .ok (.istore_n 3, 1) := by decide +kernel
theorem dX1_setWeight_41 : decode cX1_setWeight 41 = .ok (.aload_n 0, 1) := by decide +kernel
theorem dX1_setWeight_42 : decode cX1_setWeight 42 = .ok (.getfield 37, 3) := by decide +kernel
theorem dX1_setWeight_45 : decode cX1_setWeight 45 = .ok (.iload_n 1, 1) := by decide +kernel
theorem dX1_setWeight_46 : decode cX1_setWeight 46 = .ok (.iload_n 2, 1) := by decide +kernel
theorem dX1_setWeight_47 : decode cX1_setWeight 47 = .ok (.iastore, 1) := by decide +kernel
theorem dX1_setWeight_48 : decode cX1_setWeight 48 = .ok (.iload_n 3, 1) := by decide +kernel
theorem dX1_setWeight_49 : decode cX1_setWeight 49 = .ok (.ireturn, 1) := by decide +kernel
theorem dX1_setCookie_0 : decode cX1_setCookie 0 = .ok (.aload_n 0, 1) := by decide +kernel
theorem dX1_setCookie_1 : decode cX1_setCookie 1 = .ok (.aload_n 0, 1) := by decide +kernel
theorem dX1_setCookie_2 : decode cX1_setCookie 2 = .ok (.iload_n 1, 1) := by decide +kernel
theorem dX1_setCookie_3 : decode cX1_setCookie 3 = .ok (.invokevirtual 134, 3) := by decide +kernel
theorem dX1_setCookie_6 : decode cX1_setCookie 6 = .ok (.ifCond .ne 10, 3) := by decide +kernel
theorem dX1_setCookie_9 : decode cX1_setCookie 9 = .ok (.iload_n 2, 1) := by decide +kernel
theorem dX1_setCookie_10 : decode cX1_setCookie 10 = .ok (.invokestatic 131, 3) := by decide +kernel
theorem dX1_setCookie_13 : decode cX1_setCookie 13 = .ok (.ifCond .eq 7, 3) := by decide +kernel
theorem dX1_setCookie_16 : decode cX1_setCookie 16 = .ok (.iconst 1, 1) := by decide +kernel
theorem dX1_setCookie_17 : decode cX1_setCookie 17 = .ok (.goto 4, 3) := by decide +kernel
theorem dX1_setCookie_20 : decode cX1_setCookie 20 = .ok (.iconst 0, 1) := by decide +kernel
theorem dX1_setCookie_21 : decode cX1_setCookie 21 = .ok (.aload_n 0, 1) := by decide +kernel
theorem dX1_setCookie_22 : decode cX1_setCookie 22 = .ok (.iload_n 1, 1) := by decide +kernel
theorem dX1_setCookie_23 : decode cX1_setCookie 23 = .ok (.invokevirtual 140, 3) := by decide +kernel
theorem dX1_setCookie_26 : decode cX1_setCookie 26 = .ok (.invokevirtual 78, 3) := by decide +kernel
theorem dX1_setCookie_29 : decode cX1_setCookie 29 = .ok (.ifCond .eq 5, 3) := by decide +kernel
theorem dX1_setCookie_32 : decode cX1_setCookie 32 = .ok (.iconst 0, 1) := by decide +kernel
theorem dX1_setCookie_33 : decode cX1_setCookie 33 = .ok (.ireturn, 1) := by decide +kernel
theorem dX1_setCookie_34 : decode cX1_setCookie 34 = .ok (.aload_n 0, 1) := by decide +kernel
theorem dX1_setCookie_35 : decode cX1_setCookie 35 = .ok (.getfield 40, 3) := by decide +kernel
theorem dX1_setCookie_38 : decode cX1_setCookie 38 = .ok (.iload_n 1, 1) := by decide +kernel
theorem dX1_setCookie_39 : decode cX1_setCookie 39 = .ok (.iaload, 1) := by decide +kernel
theorem dX1_setCookie_40 : decode cX1_setCookie 40 = .ok (.istore_n 3, 1) := by decide +kernel
theorem dX1_setCookie_41 : decode cX1_setCookie 41 = .ok (.aload_n 0, 1) := by decide +kernel
theorem dX1_setCookie_42 : decode cX1_setCookie 42 = .ok (.getfield 40, 3) := by decide +kernel
theorem dX1_setCookie_45 : decode cX1_setCookie 45 = .ok (.iload_n 1, 1) := by decide +kernel
theorem dX1_setCookie_46 : decode cX1_setCookie 46 = .ok (.iload_n 2, 1) := by decide +kernel
theorem dX1_setCookie_47 : decode cX1_setCookie 47 = .ok (.iastore, 1) := by decide +kernel
theorem dX1_setCookie_48 : decode cX1_setCookie 48 = .ok (.iload_n 3, 1) := by decide +kernel
theorem dX1_setCookie_49 : decode cX1_setCookie 49 = .ok (.ireturn, 1) := by decide +kernel
theorem dX1_moveTask_0 : decode cX1_moveTask 0 = .ok (.aload_n 0, 1) := by decide +kernel
theorem dX1_moveTask_1 : decode cX1_moveTask 1 = .ok (.iload_n 1, 1) := by decide +kernel
theorem dX1_moveTask_2 : decode cX1_moveTask 2 = .ok (.invokevirtual 134, 3) := by decide +kernel
theorem dX1_moveTask_5 : decode cX1_moveTask 5 = .ok (.ifCond .ne 11, 3) := by decide +kernel
theorem dX1_moveTask_8 : decode cX1_moveTask 8 = .ok (.aload_n 0, 1) := by decide +kernel
theorem dX1_moveTask_9 : decode cX1_moveTask 9 = .ok (.iload_n 2, 1) := by decide +kernel
theorem dX1_moveTask_10 : decode cX1_moveTask 10 = .ok (.invokevirtual 125, 3) := by decide +kernel
theorem dX1_moveTask_13 : decode cX1_moveTask 13 = .ok (.ifCond .eq 7, 3) := by decide +kernel
theorem dX1_moveTask_16 : decode cX1_moveTask 16 = .ok (.iconst 1, 1) := by decide +kernel
theorem dX1_moveTask_17 : decode cX1_moveTask 17 = .ok (.goto 4, 3) := by decide +kernel
theorem dX1_moveTask_20 : decode cX1_moveTask 20 = .ok (.iconst 0, 1) := by decide +kernel
theorem dX1_moveTask_21 : decode cX1_moveTask 21 = .ok (.istore_n 3, 1) := by decide +kernel
theorem dX1_moveTask_22 : decode cX1_moveTask 22 = .ok (.aload_n 0, 1) := by decide +kernel
theorem dX1_moveTask_23 : decode cX1_moveTask 23 = .ok (.iload_n 3, 1) := by decide +kernel
theorem dX1_moveTask_24 : decode cX1_moveTask 24 = .ok (.iload_n 3, 1) := by decide +kernel
theorem dX1_moveTask_25 : decode cX1_moveTask 25 = .ok (.ifCond .ne 27, 3) := by decide +kernel
theorem dX1_moveTask_28 : decode cX1_moveTask 28 = .ok (.aload_n 0, 1) := by decide +kernel
theorem dX1_moveTask_29 : decode cX1_moveTask 29 = .ok (.getfield 43, 3) := by decide +kernel
theorem dX1_moveTask_32 : decode cX1_moveTask 32 = .ok (.iload_n 1, 1) := by decide +kernel
theorem dX1_moveTask_33 : decode cX1_moveTask 33 = .ok (.iaload, 1) := by decide +kernel
theorem dX1_moveTask_34 : decode cX1_moveTask 34 = .ok (.iconst 1, 1) := by decide +kernel
theorem dX1_moveTask_35 : decode cX1_moveTask 35 = .ok (.if_icmp .eq 13, 3) := by decide +kernel
theorem dX1_moveTask_38 : decode cX1_moveTask 38 = .ok (.aload_n 0, 1) := by decide +kernel
theorem dX1_moveTask_39 : decode cX1_moveTask 39 = .ok (.getfield 43, 3) := by decide +kernel
theorem dX1_moveTask_42 : decode cX1_moveTask 42 = .ok (.iload_n 1, 1) := by decide +kernel
theorem dX1_moveTask_43 : decode cX1_moveTask 43 = .ok (.iaload, 1) := by decide +kernel
theorem dX1_moveTask_44 : decode cX1_moveTask 44 = .ok (.iconst 3, 1) := by decide +kernel
theorem dX1_moveTask_45 : decode cX1_moveTask 45 = .ok (.if_icmp .ne 7, 3) := by decide +kernel
theorem dX1_moveTask_48 : decode cX1_moveTask 48 = .ok (.iconst 1, 1) := by decide +kernel
theorem dX1_moveTask_49 : decode cX1_moveTask 49 = .ok (.goto 4, 3) := by decide +kernel
theorem dX1_moveTask_52 : decode cX1_moveTask 52 = .ok (.iconst 0, 1) := by decide +kernel
theorem dX1_moveTask_53 : decode cX1_moveTask 53 = .ok (.invokevirtual 78, 3) := by decide +kernel
theorem dX1_moveTask_56 : decode cX1_moveTask 56 = .ok (.ifCond .eq 5, 3) := by decide +kernel
theorem dX1_moveTask_59 : decode cX1_moveTask 59 = .ok (.iconst 0, 1) := by decide +kernel
theorem dX1_moveTask_60 : decode cX1_moveTask 60 = .ok (.ireturn, 1) := by decide +kernel
theorem dX1_moveTask_61 : decode cX1_moveTask 61 = .ok (.aload_n 0, 1) := by decide +kernel
theorem dX1_moveTask_62 : decode cX1_moveTask 62 = .ok (.getfield 34, 3) := by decide +kernel
theorem dX1_moveTask_65 : decode cX1_moveTask 65 = .ok (.iload_n 1, 1) := by decide +kernel
theorem dX1_moveTask_66 : decode cX1_moveTask 66 = .ok (.iaload, 1) := by decide +kernel
theorem dX1_moveTask_67 : decode cX1_moveTask 67 = .ok (.istore 4, 2) := by decide +kernel
theorem dX1_moveTask_69 : decode cX1_moveTask 69 = .ok (.aload_n 0, 1) := by decide +kernel
theorem dX1_moveTask_70 : decode cX1_moveTask 70 = .ok (.getfield 43, 3) := by decide +kernel
theorem dX1_moveTask_73 : decode cX1_moveTask 73 = .ok (.iload_n 1, 1) := by decide +kernel
theorem dX1_moveTask_74 : decode cX1_moveTask 74 = .ok (.iaload, 1) := by decide +kernel
theorem dX1_moveTask_75 : decode cX1_moveTask 75 = .ok (.ifCond .ne 12, 3) := by decide +kernel
theorem dX1_moveTask_78 : decode cX1_moveTask 78 = .ok (.aload_n 0, 1) := by decide +kernel
theorem dX1_moveTask_79 : decode cX1_moveTask 79 = .ok (.iload_n 1, 1) := by decide +kernel
theorem dX1_moveTask_80 : decode cX1_moveTask 80 = .ok (.iload_n 2, 1) := by decide +kernel
theorem dX1_moveTask_81 : decode cX1_moveTask 81 = .ok (.invokevirtual 105, 3) := by decide +kernel
theorem dX1_moveTask_84 : decode cX1_moveTask 84 = .ok (.goto 10, 3) := by decide +kernel
theorem dX1_moveTask_87 : decode cX1_moveTask 87 = .ok (.aload_n 0, 1) := by decide +kernel
theorem dX1_moveTask_88 : decode cX1_moveTask 88 = .ok (.getfield 34, 3) := by decide +kernel
theorem dX1_moveTask_91 : decode cX1_moveTask 91 = .ok (.iload_n 1, 1) := by decide +kernel
theorem dX1_moveTask_92 : decode cX1_moveTask 92 = .ok (.iload_n 2, 1) := by decide +kernel
theorem dX1_moveTask_93 : decode cX1_moveTask 93 = .ok (.iastore, 1) := by decide +kernel
theorem dX1_moveTask_94 : decode cX1_moveTask 94 = .ok (.iload 4, 2) := by decide +kernel
theorem dX1_moveTask_96 : decode cX1_moveTask 96 = .ok (.ireturn, 1) := by decide +kernel
theorem dX1_taskCount_0 : decode cX1_taskCount 0 = .ok (.aload_n 0, 1) := by decide +kernel
theorem dX1_taskCount_1 : decode cX1_taskCount 1 = .ok (.iconst 0, 1) := by decide +kernel
theorem dX1_taskCount_2 : decode cX1_taskCount 2 = .ok (.putfield 59, 3) := by decide +kernel
theorem dX1_taskCount_5 : decode cX1_taskCount 5 = .ok (.aload_n 0, 1) := by decide +kernel
theorem dX1_taskCount_6 : decode cX1_taskCount 6 = .ok (.getfield 69, 3) := by decide +kernel
theorem dX1_taskCount_9 : decode cX1_taskCount 9 = .ok (.ireturn, 1) := by decide +kernel
theorem dX1_stateOf_0 : decode cX1_stateOf 0 = .ok (.aload_n 0, 1) := by decide +kernel
theorem dX1_stateOf_1 : decode cX1_stateOf 1 = .ok (.aload_n 0, 1) := by decide +kernel
theorem dX1_stateOf_2 : decode cX1_stateOf 2 = .ok (.iload_n 1, 1) := by decide +kernel
theorem dX1_stateOf_3 : decode cX1_stateOf 3 = .ok (.invokevirtual 134, 3) := by decide +kernel
theorem dX1_stateOf_6 : decode cX1_stateOf 6 = .ok (.iconst 0, 1) := by decide +kernel
theorem dX1_stateOf_7 : decode cX1_stateOf 7 = .ok (.invokevirtual 78, 3) := by decide +kernel
theorem dX1_stateOf_10 : decode cX1_stateOf 10 = .ok (.ifCond .eq 7, 3) := by decide +kernel
theorem dX1_stateOf_13 : decode cX1_stateOf 13 = .ok (.iconst 0, 1) := by decide +kernel
theorem dX1_stateOf_14 : decode cX1_stateOf 14 = .ok (.goto 9, 3) := by decide +kernel
theorem dX1_stateOf_17 : decode cX1_stateOf 17 = .ok (.aload_n 0, 1) := by decide +kernel
theorem dX1_stateOf_18 : decode cX1_stateOf 18 = .ok (.getfield 43, 3) := by decide +kernel
theorem dX1_stateOf_21 : decode cX1_stateOf 21 = .ok (.iload_n 1, 1) := by decide +kernel
theorem dX1_stateOf_22 : decode cX1_stateOf 22 = .ok (.iaload, 1) := by decide +kernel
theorem dX1_stateOf_23 : decode cX1_stateOf 23 = .ok (.ireturn, 1) := by decide +kernel
theorem dX1_cpuOf_0 : decode cX1_cpuOf 0 = .ok (.aload_n 0, 1) := by decide +kernel
theorem dX1_cpuOf_1 : decode cX1_cpuOf 1 = .ok (.aload_n 0, 1) := by decide +kernel
theorem dX1_cpuOf_2 : decode cX1_cpuOf 2 = .ok (.iload_n 1, 1) := by decide +kernel
theorem dX1_cpuOf_3 : decode cX1_cpuOf 3 = .ok (.invokevirtual 134, 3) := by decide +kernel
theorem dX1_cpuOf_6 : decode cX1_cpuOf 6 = .ok (.iconst 0, 1) := by decide +kernel
theorem dX1_cpuOf_7 : decode cX1_cpuOf 7 = .ok (.invokevirtual 78, 3) := by decide +kernel
theorem dX1_cpuOf_10 : decode cX1_cpuOf 10 = .ok (.ifCond .eq 7, 3) := by decide +kernel
theorem dX1_cpuOf_13 : decode cX1_cpuOf 13 = .ok (.iconst 0, 1) := by decide +kernel
theorem dX1_cpuOf_14 : decode cX1_cpuOf 14 = .ok (.goto 9, 3) := by decide +kernel
theorem dX1_cpuOf_17 : decode cX1_cpuOf 17 = .ok (.aload_n 0, 1) := by decide +kernel
theorem dX1_cpuOf_18 : decode cX1_cpuOf 18 = .ok (.getfield 34, 3) := by decide +kernel
theorem dX1_cpuOf_21 : decode cX1_cpuOf 21 = .ok (.iload_n 1, 1) := by decide +kernel
theorem dX1_cpuOf_22 : decode cX1_cpuOf 22 = .ok (.iaload, 1) := by decide +kernel
theorem dX1_cpuOf_23 : decode cX1_cpuOf 23 = .ok (.ireturn, 1) := by decide +kernel
theorem dX1_virtualTime_0 : decode cX1_virtualTime 0 = .ok (.aload_n 0, 1) := by decide +kernel
theorem dX1_virtualTime_1 : decode cX1_virtualTime 1 = .ok (.aload_n 0, 1) := by decide +kernel
theorem dX1_virtualTime_2 : decode cX1_virtualTime 2 = .ok (.iload_n 1, 1) := by decide +kernel
theorem dX1_virtualTime_3 : decode cX1_virtualTime 3 = .ok (.invokevirtual 134, 3) := by decide +kernel
theorem dX1_virtualTime_6 : decode cX1_virtualTime 6 = .ok (.iconst 0, 1) := by decide +kernel
theorem dX1_virtualTime_7 : decode cX1_virtualTime 7 = .ok (.invokevirtual 78, 3) := by decide +kernel
theorem dX1_virtualTime_10 : decode cX1_virtualTime 10 = .ok (.ifCond .eq 7, 3) := by decide +kernel
theorem dX1_virtualTime_13 : decode cX1_virtualTime 13 = .ok (.lconst 0, 1) := by decide +kernel
theorem dX1_virtualTime_14 : decode cX1_virtualTime 14 = .ok (.goto 9, 3) := by decide +kernel
theorem dX1_virtualTime_17 : decode cX1_virtualTime 17 = .ok (.aload_n 0, 1) := by decide +kernel
theorem dX1_virtualTime_18 : decode cX1_virtualTime 18 = .ok (.getfield 46, 3) := by decide +kernel
theorem dX1_virtualTime_21 : decode cX1_virtualTime 21 = .ok (.iload_n 1, 1) := by decide +kernel
theorem dX1_virtualTime_22 : decode cX1_virtualTime 22 = .ok (.laload, 1) := by decide +kernel
theorem dX1_virtualTime_23 : decode cX1_virtualTime 23 = .ok (.lreturn, 1) := by decide +kernel
theorem dX1_runTicks_0 : decode cX1_runTicks 0 = .ok (.aload_n 0, 1) := by decide +kernel
theorem dX1_runTicks_1 : decode cX1_runTicks 1 = .ok (.aload_n 0, 1) := by decide +kernel
theorem dX1_runTicks_2 : decode cX1_runTicks 2 = .ok (.iload_n 1, 1) := by decide +kernel
theorem dX1_runTicks_3 : decode cX1_runTicks 3 = .ok (.invokevirtual 134, 3) := by decide +kernel
theorem dX1_runTicks_6 : decode cX1_runTicks 6 = .ok (.iconst 0, 1) := by decide +kernel
theorem dX1_runTicks_7 : decode cX1_runTicks 7 = .ok (.invokevirtual 78, 3) := by decide +kernel
theorem dX1_runTicks_10 : decode cX1_runTicks 10 = .ok (.ifCond .eq 7, 3) := by decide +kernel
theorem dX1_runTicks_13 : decode cX1_runTicks 13 = .ok (.iconst 0, 1) := by decide +kernel
theorem dX1_runTicks_14 : decode cX1_runTicks 14 = .ok (.goto 9, 3) := by decide +kernel
theorem dX1_runTicks_17 : decode cX1_runTicks 17 = .ok (.aload_n 0, 1) := by decide +kernel
theorem dX1_runTicks_18 : decode cX1_runTicks 18 = .ok (.getfield 49, 3) := by decide +kernel
theorem dX1_runTicks_21 : decode cX1_runTicks 21 = .ok (.iload_n 1, 1) := by decide +kernel
theorem dX1_runTicks_22 : decode cX1_runTicks 22 = .ok (.iaload, 1) := by decide +kernel
theorem dX1_runTicks_23 : decode cX1_runTicks 23 = .ok (.ireturn, 1) := by decide +kernel
theorem dX1_waitTicks_0 : decode cX1_waitTicks 0 = .ok (.aload_n 0, 1) := by decide +kernel
theorem dX1_waitTicks_1 : decode cX1_waitTicks 1 = .ok (.aload_n 0, 1) := by decide +kernel
theorem dX1_waitTicks_2 : decode cX1_waitTicks 2 = .ok (.iload_n 1, 1) := by decide +kernel
theorem dX1_waitTicks_3 : decode cX1_waitTicks 3 = .ok (.invokevirtual 134, 3) := by decide +kernel
theorem dX1_waitTicks_6 : decode cX1_waitTicks 6 = .ok (.iconst 0, 1) := by decide +kernel
theorem dX1_waitTicks_7 : decode cX1_waitTicks 7 = .ok (.invokevirtual 78, 3) := by decide +kernel
theorem dX1_waitTicks_10 : decode cX1_waitTicks 10 = .ok (.ifCond .eq 7, 3) := by decide +kernel
theorem dX1_waitTicks_13 : decode cX1_waitTicks 13 = .ok (.iconst 0, 1) := by decide +kernel
theorem dX1_waitTicks_14 : decode cX1_waitTicks 14 = .ok (.goto 9, 3) := by decide +kernel
theorem dX1_waitTicks_17 : decode cX1_waitTicks 17 = .ok (.aload_n 0, 1) := by decide +kernel
theorem dX1_waitTicks_18 : decode cX1_waitTicks 18 = .ok (.getfield 52, 3) := by decide +kernel
theorem dX1_waitTicks_21 : decode cX1_waitTicks 21 = .ok (.iload_n 1, 1) := by decide +kernel
theorem dX1_waitTicks_22 : decode cX1_waitTicks 22 = .ok (.iaload, 1) := by decide +kernel
theorem dX1_waitTicks_23 : decode cX1_waitTicks 23 = .ok (.ireturn, 1) := by decide +kernel
theorem dX1_share_0 : decode cX1_share 0 = .ok (.aload_n 0, 1) := by decide +kernel
theorem dX1_share_1 : decode cX1_share 1 = .ok (.aload_n 0, 1) := by decide +kernel
theorem dX1_share_2 : decode cX1_share 2 = .ok (.iload_n 1, 1) := by decide +kernel
theorem dX1_share_3 : decode cX1_share 3 = .ok (.invokevirtual 134, 3) := by decide +kernel
theorem dX1_share_6 : decode cX1_share 6 = .ok (.iconst 0, 1) := by decide +kernel
theorem dX1_share_7 : decode cX1_share 7 = .ok (.invokevirtual 78, 3) := by decide +kernel
theorem dX1_share_10 : decode cX1_share 10 = .ok (.ifCond .ne 19, 3) := by decide +kernel
theorem dX1_share_13 : decode cX1_share 13 = .ok (.aload_n 0, 1) := by decide +kernel
theorem dX1_share_14 : decode cX1_share 14 = .ok (.getfield 49, 3) := by decide +kernel
theorem dX1_share_17 : decode cX1_share 17 = .ok (.iload_n 1, 1) := by decide +kernel
theorem dX1_share_18 : decode cX1_share 18 = .ok (.iaload, 1) := by decide +kernel
theorem dX1_share_19 : decode cX1_share 19 = .ok (.aload_n 0, 1) := by decide +kernel
theorem dX1_share_20 : decode cX1_share 20 = .ok (.getfield 52, 3) := by decide +kernel
theorem dX1_share_23 : decode cX1_share 23 = .ok (.iload_n 1, 1) := by decide +kernel
theorem dX1_share_24 : decode cX1_share 24 = .ok (.iaload, 1) := by decide +kernel
theorem dX1_share_25 : decode cX1_share 25 = .ok (.iadd, 1) := by decide +kernel
theorem dX1_share_26 : decode cX1_share 26 = .ok (.ifCond .ne 5, 3) := by decide +kernel
theorem dX1_share_29 : decode cX1_share 29 = .ok (.dconst 0, 1) := by decide +kernel
theorem dX1_share_30 : decode cX1_share 30 = .ok (.dreturn, 1) := by decide +kernel
theorem dX1_share_31 : decode cX1_share 31 = .ok (.aload_n 0, 1) := by decide +kernel
theorem dX1_share_32 : decode cX1_share 32 = .ok (.getfield 49, 3) := by decide +kernel
theorem dX1_share_35 : decode cX1_share 35 = .ok (.iload_n 1, 1) := by decide +kernel
theorem dX1_share_36 : decode cX1_share 36 = .ok (.iaload, 1) := by decide +kernel
theorem dX1_share_37 : decode cX1_share 37 = .ok (.i2d, 1) := by decide +kernel
theorem dX1_share_38 : decode cX1_share 38 = .ok (.aload_n 0, 1) := by decide +kernel
theorem dX1_share_39 : decode cX1_share 39 = .ok (.getfield 49, 3) := by decide +kernel
theorem dX1_share_42 : decode cX1_share 42 = .ok (.iload_n 1, 1) := by decide +kernel
theorem dX1_share_43 : decode cX1_share 43 = .ok (.iaload, 1) := by decide +kernel
theorem dX1_share_44 : decode cX1_share 44 = .ok (.aload_n 0, 1) := by decide +kernel
theorem dX1_share_45 : decode cX1_share 45 = .ok (.getfield 52, 3) := by decide +kernel
theorem dX1_share_48 : decode cX1_share 48 = .ok (.iload_n 1, 1) := by decide +kernel
theorem dX1_share_49 : decode cX1_share 49 = .ok (.iaload, 1) := by decide +kernel
theorem dX1_share_50 : decode cX1_share 50 = .ok (.iadd, 1) := by decide +kernel
theorem dX1_share_51 : decode cX1_share 51 = .ok (.i2d, 1) := by decide +kernel
theorem dX1_share_52 : decode cX1_share 52 = .ok (.ddiv, 1) := by decide +kernel
theorem dX1_share_53 : decode cX1_share 53 = .ok (.dreturn, 1) := by decide +kernel
theorem dX1_runningTask_0 : decode cX1_runningTask 0 = .ok (.aload_n 0, 1) := by decide +kernel
theorem dX1_runningTask_1 : decode cX1_runningTask 1 = .ok (.aload_n 0, 1) := by decide +kernel
theorem dX1_runningTask_2 : decode cX1_runningTask 2 = .ok (.iload_n 1, 1) := by decide +kernel
theorem dX1_runningTask_3 : decode cX1_runningTask 3 = .ok (.invokevirtual 125, 3) := by decide +kernel
theorem dX1_runningTask_6 : decode cX1_runningTask 6 = .ok (.iconst 0, 1) := by decide +kernel
theorem dX1_runningTask_7 : decode cX1_runningTask 7 = .ok (.invokevirtual 78, 3) := by decide +kernel
theorem dX1_runningTask_10 : decode cX1_runningTask 10 = .ok (.ifCond .eq 7, 3) := by decide +kernel
theorem dX1_runningTask_13 : decode cX1_runningTask 13 = .ok (.iconst 0, 1) := by decide +kernel
theorem dX1_runningTask_14 : decode cX1_runningTask 14 = .ok (.goto 9, 3) := by decide +kernel
theorem dX1_runningTask_17 : decode cX1_runningTask 17 = .ok (.aload_n 0, 1) := by decide +kernel
theorem dX1_runningTask_18 : decode cX1_runningTask 18 = .ok (.getfield 17, 3) := by decide +kernel
theorem dX1_runningTask_21 : decode cX1_runningTask 21 = .ok (.iload_n 1, 1) := by decide +kernel
theorem dX1_runningTask_22 : decode cX1_runningTask 22 = .ok (.iaload, 1) := by decide +kernel
theorem dX1_runningTask_23 : decode cX1_runningTask 23 = .ok (.ireturn, 1) := by decide +kernel
theorem dX1_coreCookie_0 : decode cX1_coreCookie 0 = .ok (.aload_n 0, 1) := by decide +kernel
theorem dX1_coreCookie_1 : decode cX1_coreCookie 1 = .ok (.aload_n 0, 1) := by decide +kernel
theorem dX1_coreCookie_2 : decode cX1_coreCookie 2 = .ok (.iload_n 1, 1) := by decide +kernel
theorem dX1_coreCookie_3 : decode cX1_coreCookie 3 = .ok (.invokevirtual 143, 3) := by decide +kernel
theorem dX1_coreCookie_6 : decode cX1_coreCookie 6 = .ok (.iconst 0, 1) := by decide +kernel
theorem dX1_coreCookie_7 : decode cX1_coreCookie 7 = .ok (.invokevirtual 78, 3) := by decide +kernel
theorem dX1_coreCookie_10 : decode cX1_coreCookie 10 = .ok (.ifCond .eq 7, 3) := by decide +kernel
theorem dX1_coreCookie_13 : decode cX1_coreCookie 13 = .ok (.iconst 0, 1) := by decide +kernel
theorem dX1_coreCookie_14 : decode cX1_coreCookie 14 = .ok (.goto 9, 3) := by decide +kernel
theorem dX1_coreCookie_17 : decode cX1_coreCookie 17 = .ok (.aload_n 0, 1) := by decide +kernel
theorem dX1_coreCookie_18 : decode cX1_coreCookie 18 = .ok (.getfield 31, 3) := by decide +kernel
theorem dX1_coreCookie_21 : decode cX1_coreCookie 21 = .ok (.iload_n 1, 1) := by decide +kernel
theorem dX1_coreCookie_22 : decode cX1_coreCookie 22 = .ok (.iaload, 1) := by decide +kernel
theorem dX1_coreCookie_23 : decode cX1_coreCookie 23 = .ok (.ireturn, 1) := by decide +kernel
theorem dX1_leaderOf_0 : decode cX1_leaderOf 0 = .ok (.aload_n 0, 1) := by decide +kernel
theorem dX1_leaderOf_1 : decode cX1_leaderOf 1 = .ok (.aload_n 0, 1) := by decide +kernel
theorem dX1_leaderOf_2 : decode cX1_leaderOf 2 = .ok (.iload_n 1, 1) := by decide +kernel
theorem dX1_leaderOf_3 : decode cX1_leaderOf 3 = .ok (.invokevirtual 143, 3) := by decide +kernel
theorem dX1_leaderOf_6 : decode cX1_leaderOf 6 = .ok (.iconst 0, 1) := by decide +kernel
theorem dX1_leaderOf_7 : decode cX1_leaderOf 7 = .ok (.invokevirtual 78, 3) := by decide +kernel
theorem dX1_leaderOf_10 : decode cX1_leaderOf 10 = .ok (.ifCond .eq 7, 3) := by decide +kernel
theorem dX1_leaderOf_13 : decode cX1_leaderOf 13 = .ok (.iconst 0, 1) := by decide +kernel
theorem dX1_leaderOf_14 : decode cX1_leaderOf 14 = .ok (.goto 8, 3) := by decide +kernel
theorem dX1_leaderOf_17 : decode cX1_leaderOf 17 = .ok (.aload_n 0, 1) := by decide +kernel
theorem dX1_leaderOf_18 : decode cX1_leaderOf 18 = .ok (.iload_n 1, 1) := by decide +kernel
theorem dX1_leaderOf_19 : decode cX1_leaderOf 19 = .ok (.invokevirtual 94, 3) := by decide +kernel
theorem dX1_leaderOf_22 : decode cX1_leaderOf 22 = .ok (.ireturn, 1) := by decide +kernel
theorem dX1_queueLength_0 : decode cX1_queueLength 0 = .ok (.aload_n 0, 1) := by decide +kernel
theorem dX1_queueLength_1 : decode cX1_queueLength 1 = .ok (.aload_n 0, 1) := by decide +kernel
theorem dX1_queueLength_2 : decode cX1_queueLength 2 = .ok (.iload_n 1, 1) := by decide +kernel
theorem dX1_queueLength_3 : decode cX1_queueLength 3 = .ok (.invokevirtual 125, 3) := by decide +kernel
theorem dX1_queueLength_6 : decode cX1_queueLength 6 = .ok (.iconst 0, 1) := by decide +kernel
theorem dX1_queueLength_7 : decode cX1_queueLength 7 = .ok (.invokevirtual 78, 3) := by decide +kernel
theorem dX1_queueLength_10 : decode cX1_queueLength 10 = .ok (.ifCond .eq 7, 3) := by decide +kernel
theorem dX1_queueLength_13 : decode cX1_queueLength 13 = .ok (.iconst 0, 1) := by decide +kernel
theorem dX1_queueLength_14 : decode cX1_queueLength 14 = .ok (.goto 8, 3) := by decide +kernel
theorem dX1_queueLength_17 : decode cX1_queueLength 17 = .ok (.aload_n 0, 1) := by decide +kernel
theorem dX1_queueLength_18 : decode cX1_queueLength 18 = .ok (.iload_n 1, 1) := by decide +kernel
theorem dX1_queueLength_19 : decode cX1_queueLength 19 = .ok (.invokevirtual 109, 3) := by decide +kernel
theorem dX1_queueLength_22 : decode cX1_queueLength 22 = .ok (.ireturn, 1) := by decide +kernel
theorem dX1_queuedTask_0 : decode cX1_queuedTask 0 = .ok (.aload_n 0, 1) := by decide +kernel
theorem dX1_queuedTask_1 : decode cX1_queuedTask 1 = .ok (.iload_n 1, 1) := by decide +kernel
theorem dX1_queuedTask_2 : decode cX1_queuedTask 2 = .ok (.invokevirtual 125, 3) := by decide +kernel
theorem dX1_queuedTask_5 : decode cX1_queuedTask 5 = .ok (.istore_n 3, 1) := by decide +kernel
theorem dX1_queuedTask_6 : decode cX1_queuedTask 6 = .ok (.aload_n 0, 1) := by decide +kernel
theorem dX1_queuedTask_7 : decode cX1_queuedTask 7 = .ok (.iload_n 3, 1) := by decide +kernel
theorem dX1_queuedTask_8 : decode cX1_queuedTask 8 = .ok (.iload_n 3, 1) := by decide +kernel
theorem dX1_queuedTask_9 : decode cX1_queuedTask 9 = .ok (.ifCond .ne 24, 3) := by decide +kernel
theorem dX1_queuedTask_12 : decode cX1_queuedTask 12 = .ok (.iload_n 2, 1) := by decide +kernel
theorem dX1_queuedTask_13 : decode cX1_queuedTask 13 = .ok (.i2l, 1) := by decide +kernel
theorem dX1_queuedTask_14 : decode cX1_queuedTask 14 = .ok (.lconst 0, 1) := by decide +kernel
theorem dX1_queuedTask_15 : decode cX1_queuedTask 15 = .ok (.aload_n 0, 1) := by decide +kernel
theorem dX1_queuedTask_16 : decode cX1_queuedTask 16 = .ok (.iload_n 1, 1) := by decide +kernel
theorem dX1_queuedTask_17 : decode cX1_queuedTask 17 = .ok (.invokevirtual 109, 3) := by decide +kernel
theorem dX1_queuedTask_20 : decode cX1_queuedTask 20 = .ok (.iconst 1, 1) := by decide +kernel
theorem dX1_queuedTask_21 : decode cX1_queuedTask 21 = .ok (.isub, 1) := by decide +kernel
theorem dX1_queuedTask_22 : decode cX1_queuedTask 22 = .ok (.i2l, 1) := by decide +kernel
theorem dX1_queuedTask_23 : decode cX1_queuedTask 23 = .ok (.invokestatic 72, 3) := by decide +kernel
theorem dX1_queuedTask_26 : decode cX1_queuedTask 26 = .ok (.ifCond .ne 7, 3) := by decide +kernel
theorem dX1_queuedTask_29 : decode cX1_queuedTask 29 = .ok (.iconst 1, 1) := by decide +kernel
theorem dX1_queuedTask_30 : decode cX1_queuedTask 30 = .ok (.goto 4, 3) := by decide +kernel
theorem dX1_queuedTask_33 : decode cX1_queuedTask 33 = .ok (.iconst 0, 1) := by decide +kernel
theorem dX1_queuedTask_34 : decode cX1_queuedTask 34 = .ok (.invokevirtual 78, 3) := by decide +kernel
theorem dX1_queuedTask_37 : decode cX1_queuedTask 37 = .ok (.ifCond .eq 5, 3) := by decide +kernel
theorem dX1_queuedTask_40 : decode cX1_queuedTask 40 = .ok (.iconst 0, 1) := by decide +kernel
theorem dX1_queuedTask_41 : decode cX1_queuedTask 41 = .ok (.ireturn, 1) := by decide +kernel
theorem dX1_queuedTask_42 : decode cX1_queuedTask 42 = .ok (.iconst 0, 1) := by decide +kernel
theorem dX1_queuedTask_43 : decode cX1_queuedTask 43 = .ok (.istore 4, 2) := by decide +kernel
theorem dX1_queuedTask_45 : decode cX1_queuedTask 45 = .ok (.iload 4, 2) := by decide +kernel
theorem dX1_queuedTask_47 : decode cX1_queuedTask 47 = .ok (.aload_n 0, 1) := by decide +kernel
theorem dX1_queuedTask_48 : decode cX1_queuedTask 48 = .ok (.getfield 69, 3) := by decide +kernel
theorem dX1_queuedTask_51 : decode cX1_queuedTask 51 = .ok (.if_icmp .ge 107, 3) := by decide +kernel
theorem dX1_queuedTask_54 : decode cX1_queuedTask 54 = .ok (.iconst 0, 1) := by decide +kernel
theorem dX1_queuedTask_55 : decode cX1_queuedTask 55 = .ok (.istore 5, 2) := by decide +kernel
theorem dX1_queuedTask_57 : decode cX1_queuedTask 57 = .ok (.iconst 0, 1) := by decide +kernel
theorem dX1_queuedTask_58 : decode cX1_queuedTask 58 = .ok (.istore 6, 2) := by decide +kernel
theorem dX1_queuedTask_60 : decode cX1_queuedTask 60 = .ok (.iload 6, 2) := by decide +kernel
theorem dX1_queuedTask_62 : decode cX1_queuedTask 62 = .ok (.aload_n 0, 1) := by decide +kernel
theorem dX1_queuedTask_63 : decode cX1_queuedTask 63 = .ok (.getfield 69, 3) := by decide +kernel
theorem dX1_queuedTask_66 : decode cX1_queuedTask 66 = .ok (.if_icmp .ge 57, 3) := by decide +kernel
theorem dX1_queuedTask_69 : decode cX1_queuedTask 69 = .ok (.iload 5, 2) := by decide +kernel
theorem dX1_queuedTask_71 : decode cX1_queuedTask 71 = .ok (.iload 6, 2) := by decide +kernel
theorem dX1_queuedTask_73 : decode cX1_queuedTask 73 = .ok (.iload 4, 2) := by decide +kernel
theorem dX1_queuedTask_75 : decode cX1_queuedTask 75 = .ok (.if_icmp .eq 38, 3) := by decide +kernel
theorem dX1_queuedTask_78 : decode cX1_queuedTask 78 = .ok (.aload_n 0, 1) := by decide +kernel
theorem dX1_queuedTask_79 : decode cX1_queuedTask 79 = .ok (.iload 6, 2) := by decide +kernel
theorem dX1_queuedTask_81 : decode cX1_queuedTask 81 = .ok (.invokevirtual 86, 3) := by decide +kernel
theorem dX1_queuedTask_84 : decode cX1_queuedTask 84 = .ok (.ifCond .eq 29, 3) := by decide +kernel
theorem dX1_queuedTask_87 : decode cX1_queuedTask 87 = .ok (.aload_n 0, 1) := by decide +kernel
theorem dX1_queuedTask_88 : decode cX1_queuedTask 88 = .ok (.getfield 34, 3) := by decide +kernel
theorem dX1_queuedTask_91 : decode cX1_queuedTask 91 = .ok (.iload 6, 2) := by decide +kernel
theorem dX1_queuedTask_93 : decode cX1_queuedTask 93 = .ok (.iaload, 1) := by decide +kernel
theorem dX1_queuedTask_94 : decode cX1_queuedTask 94 = .ok (.iload_n 1, 1) := by decide +kernel
theorem dX1_queuedTask_95 : decode cX1_queuedTask 95 = .ok (.if_icmp .ne 18, 3) := by decide +kernel
theorem dX1_queuedTask_98 : decode cX1_queuedTask 98 = .ok (.aload_n 0, 1) := by decide +kernel
theorem dX1_queuedTask_99 : decode cX1_queuedTask 99 = .ok (.iload 6, 2) := by decide +kernel
theorem dX1_queuedTask_101 : decode cX1_queuedTask 101 = .ok (.iload 4, 2) := by decide +kernel
theorem dX1_queuedTask_103 : decode cX1_queuedTask 103 = .ok (.invokevirtual 90, 3) := by decide +kernel
theorem dX1_queuedTask_106 : decode cX1_queuedTask 106 = .ok (.ifCond .eq 7, 3) := by decide +kernel
theorem dX1_queuedTask_109 : decode cX1_queuedTask 109 = .ok (.iconst 1, 1) := by decide +kernel
theorem dX1_queuedTask_110 : decode cX1_queuedTask 110 = .ok (.goto 4, 3) := by decide +kernel
theorem dX1_queuedTask_113 : decode cX1_queuedTask 113 = .ok (.iconst 0, 1) := by decide +kernel
theorem dX1_queuedTask_114 : decode cX1_queuedTask 114 = .ok (.iadd, 1) := by decide +kernel
theorem dX1_queuedTask_115 : decode cX1_queuedTask 115 = .ok (.istore 5, 2) := by decide +kernel
theorem dX1_queuedTask_117 : decode cX1_queuedTask 117 = .ok (.iinc 6 1, 3) := by decide +kernel
theorem dX1_queuedTask_120 : decode cX1_queuedTask 120 = .ok (.goto (-60), 3) := by decide +kernel
theorem dX1_queuedTask_123 : decode cX1_queuedTask 123 = .ok (.aload_n 0, 1) := by decide +kernel
theorem dX1_queuedTask_124 : decode cX1_queuedTask 124 = .ok (.iload 4, 2) := by decide +kernel
theorem dX1_queuedTask_126 : decode cX1_queuedTask 126 = .ok (.invokevirtual 86, 3) := by decide +kernel
theorem dX1_queuedTask_129 : decode cX1_queuedTask 129 = .ok (.ifCond .eq 23, 3) := by decide +kernel
theorem dX1_queuedTask_132 : decode cX1_queuedTask 132 = .ok (.aload_n 0, 1) := by decide +kernel
theorem dX1_queuedTask_133 : decode cX1_queuedTask 133 = .ok (.getfield 34, 3) := by decide +kernel
theorem dX1_queuedTask_136 : decode cX1_queuedTask 136 = .ok (.iload 4, 2) := by decide +kernel
theorem dX1_queuedTask_138 : decode cX1_queuedTask 138 = .ok (.iaload, 1) := by decide +kernel
theorem dX1_queuedTask_139 : decode cX1_queuedTask 139 = .ok (.iload_n 1, 1) := by decide +kernel
theorem dX1_queuedTask_140 : decode cX1_queuedTask 140 = .ok (.if_icmp .ne 12, 3) := by decide +kernel
theorem dX1_queuedTask_143 : decode cX1_queuedTask 143 = .ok (.iload 5, 2) := by decide +kernel
theorem dX1_queuedTask_145 : decode cX1_queuedTask 145 = .ok (.iload_n 2, 1) := by decide +kernel
theorem dX1_queuedTask_146 : decode cX1_queuedTask 146 = .ok (.if_icmp .ne 6, 3) := by decide +kernel
theorem dX1_queuedTask_149 : decode cX1_queuedTask 149 = .ok (.iload 4, 2) := by decide +kernel
theorem dX1_queuedTask_151 : decode cX1_queuedTask 151 = .ok (.ireturn, 1) := by decide +kernel
theorem dX1_queuedTask_152 : decode cX1_queuedTask 152 = .ok (.iinc 4 1, 3) := by decide +kernel
theorem dX1_queuedTask_155 : decode cX1_queuedTask 155 = .ok (.goto (-110), 3) := by decide +kernel
theorem dX1_queuedTask_158 : decode cX1_queuedTask 158 = .ok (.iconst 0, 1) := by decide +kernel
theorem dX1_queuedTask_159 : decode cX1_queuedTask 159 = .ok (.ireturn, 1) := by decide +kernel
theorem dX1_baseOf_0 : decode cX1_baseOf 0 = .ok (.aload_n 0, 1) := by decide +kernel
theorem dX1_baseOf_1 : decode cX1_baseOf 1 = .ok (.aload_n 0, 1) := by decide +kernel
theorem dX1_baseOf_2 : decode cX1_baseOf 2 = .ok (.iload_n 1, 1) := by decide +kernel
theorem dX1_baseOf_3 : decode cX1_baseOf 3 = .ok (.invokevirtual 125, 3) := by decide +kernel
theorem dX1_baseOf_6 : decode cX1_baseOf 6 = .ok (.iconst 0, 1) := by decide +kernel
theorem dX1_baseOf_7 : decode cX1_baseOf 7 = .ok (.invokevirtual 78, 3) := by decide +kernel
theorem dX1_baseOf_10 : decode cX1_baseOf 10 = .ok (.ifCond .eq 7, 3) := by decide +kernel
theorem dX1_baseOf_13 : decode cX1_baseOf 13 = .ok (.lconst 0, 1) := by decide +kernel
theorem dX1_baseOf_14 : decode cX1_baseOf 14 = .ok (.goto 9, 3) := by decide +kernel
theorem dX1_baseOf_17 : decode cX1_baseOf 17 = .ok (.aload_n 0, 1) := by decide +kernel
theorem dX1_baseOf_18 : decode cX1_baseOf 18 = .ok (.getfield 13, 3) := by decide +kernel
theorem dX1_baseOf_21 : decode cX1_baseOf 21 = .ok (.iload_n 1, 1) := by decide +kernel
theorem dX1_baseOf_22 : decode cX1_baseOf 22 = .ok (.laload, 1) := by decide +kernel
theorem dX1_baseOf_23 : decode cX1_baseOf 23 = .ok (.lreturn, 1) := by decide +kernel
theorem dX1_idleTicks_0 : decode cX1_idleTicks 0 = .ok (.aload_n 0, 1) := by decide +kernel
theorem dX1_idleTicks_1 : decode cX1_idleTicks 1 = .ok (.aload_n 0, 1) := by decide +kernel
theorem dX1_idleTicks_2 : decode cX1_idleTicks 2 = .ok (.iload_n 1, 1) := by decide +kernel
theorem dX1_idleTicks_3 : decode cX1_idleTicks 3 = .ok (.invokevirtual 125, 3) := by decide +kernel
theorem dX1_idleTicks_6 : decode cX1_idleTicks 6 = .ok (.iconst 0, 1) := by decide +kernel
theorem dX1_idleTicks_7 : decode cX1_idleTicks 7 = .ok (.invokevirtual 78, 3) := by decide +kernel
theorem dX1_idleTicks_10 : decode cX1_idleTicks 10 = .ok (.ifCond .eq 7, 3) := by decide +kernel
theorem dX1_idleTicks_13 : decode cX1_idleTicks 13 = .ok (.iconst 0, 1) := by decide +kernel
theorem dX1_idleTicks_14 : decode cX1_idleTicks 14 = .ok (.goto 9, 3) := by decide +kernel
theorem dX1_idleTicks_17 : decode cX1_idleTicks 17 = .ok (.aload_n 0, 1) := by decide +kernel
theorem dX1_idleTicks_18 : decode cX1_idleTicks 18 = .ok (.getfield 25, 3) := by decide +kernel
theorem dX1_idleTicks_21 : decode cX1_idleTicks 21 = .ok (.iload_n 1, 1) := by decide +kernel
theorem dX1_idleTicks_22 : decode cX1_idleTicks 22 = .ok (.iaload, 1) := by decide +kernel
theorem dX1_idleTicks_23 : decode cX1_idleTicks 23 = .ok (.ireturn, 1) := by decide +kernel
theorem dX1_forcedIdleTicks_0 : decode cX1_forcedIdleTicks 0 = .ok (.aload_n 0, 1) := by decide +kernel
theorem dX1_forcedIdleTicks_1 : decode cX1_forcedIdleTicks 1 = .ok (.aload_n 0, 1) := by decide +kernel
theorem dX1_forcedIdleTicks_2 : decode cX1_forcedIdleTicks 2 = .ok (.iload_n 1, 1) := by decide +kernel
theorem dX1_forcedIdleTicks_3 : decode cX1_forcedIdleTicks 3 = .ok (.invokevirtual 125, 3) := by decide +kernel
theorem dX1_forcedIdleTicks_6 : decode cX1_forcedIdleTicks 6 = .ok (.iconst 0, 1) := by decide +kernel
theorem dX1_forcedIdleTicks_7 : decode cX1_forcedIdleTicks 7 = .ok (.invokevirtual 78, 3) := by decide +kernel
theorem dX1_forcedIdleTicks_10 : decode cX1_forcedIdleTicks 10 = .ok (.ifCond .eq 7, 3) := by decide +kernel
theorem dX1_forcedIdleTicks_13 : decode cX1_forcedIdleTicks 13 = .ok (.iconst 0, 1) := by decide +kernel
theorem dX1_forcedIdleTicks_14 : decode cX1_forcedIdleTicks 14 = .ok (.goto 9, 3) := by decide +kernel
theorem dX1_forcedIdleTicks_17 : decode cX1_forcedIdleTicks 17 = .ok (.aload_n 0, 1) := by decide +kernel
theorem dX1_forcedIdleTicks_18 : decode cX1_forcedIdleTicks 18 = .ok (.getfield 28, 3) := by decide +kernel
theorem dX1_forcedIdleTicks_21 : decode cX1_forcedIdleTicks 21 = .ok (.iload_n 1, 1) := by decide +kernel
theorem dX1_forcedIdleTicks_22 : decode cX1_forcedIdleTicks 22 = .ok (.iaload, 1) := by decide +kernel
theorem dX1_forcedIdleTicks_23 : decode cX1_forcedIdleTicks 23 = .ok (.ireturn, 1) := by decide +kernel
theorem dX1_stolenTasks_0 : decode cX1_stolenTasks 0 = .ok (.aload_n 0, 1) := by decide +kernel
theorem dX1_stolenTasks_1 : decode cX1_stolenTasks 1 = .ok (.iconst 0, 1) := by decide +kernel
theorem dX1_stolenTasks_2 : decode cX1_stolenTasks 2 = .ok (.putfield 59, 3) := by decide +kernel
theorem dX1_stolenTasks_5 : decode cX1_stolenTasks 5 = .ok (.aload_n 0, 1) := by decide +kernel
theorem dX1_stolenTasks_6 : decode cX1_stolenTasks 6 = .ok (.getfield 66, 3) := by decide +kernel
theorem dX1_stolenTasks_9 : decode cX1_stolenTasks 9 = .ok (.ireturn, 1) := by decide +kernel
end
section
theorem dL_reset_0 : decode cL_reset 0 = .ok (.aload_n 2, 1) := by decide +kernel
theorem dL_reset_1 : decode cL_reset 1 = .ok (.iconst 0, 1) := by decide +kernel
theorem dL_reset_2 : decode cL_reset 2 = .ok (.aload_n 0, 1) := by decide +kernel
theorem dL_reset_3 : decode cL_reset 3 = .ok (.iload_n 1, 1) := by decide +kernel
theorem dL_reset_4 : decode cL_reset 4 = .ok (.invokevirtual 7, 3) := by decide +kernel
theorem dL_reset_7 : decode cL_reset 7 = .ok (.i2l, 1) := by decide +kernel
theorem dL_reset_8 : decode cL_reset 8 = .ok (.lastore, 1) := by decide +kernel
theorem dL_reset_9 : decode cL_reset 9 = .ok (.goto 6, 3) := by decide +kernel
theorem dL_reset_12 : decode cL_reset 12 = .ok (.astore_n 3, 1) := by decide +kernel
theorem dL_reset_13 : decode cL_reset 13 = .ok (.iconst 1, 1) := by decide +kernel
theorem dL_reset_14 : decode cL_reset 14 = .ok (.ireturn, 1) := by decide +kernel
theorem dL_reset_15 : decode cL_reset 15 = .ok (.iconst 0, 1) := by decide +kernel
theorem dL_reset_16 : decode cL_reset 16 = .ok (.ireturn, 1) := by decide +kernel
theorem dL_tick_0 : decode cL_tick 0 = .ok (.aload_n 2, 1) := by decide +kernel
theorem dL_tick_1 : decode cL_tick 1 = .ok (.iconst 0, 1) := by decide +kernel
theorem dL_tick_2 : decode cL_tick 2 = .ok (.aload_n 0, 1) := by decide +kernel
theorem dL_tick_3 : decode cL_tick 3 = .ok (.iload_n 1, 1) := by decide +kernel
theorem dL_tick_4 : decode cL_tick 4 = .ok (.invokevirtual 15, 3) := by decide +kernel
theorem dL_tick_7 : decode cL_tick 7 = .ok (.i2l, 1) := by decide +kernel
theorem dL_tick_8 : decode cL_tick 8 = .ok (.lastore, 1) := by decide +kernel
theorem dL_tick_9 : decode cL_tick 9 = .ok (.goto 6, 3) := by decide +kernel
theorem dL_tick_12 : decode cL_tick 12 = .ok (.astore_n 3, 1) := by decide +kernel
theorem dL_tick_13 : decode cL_tick 13 = .ok (.iconst 1, 1) := by decide +kernel
theorem dL_tick_14 : decode cL_tick 14 = .ok (.ireturn, 1) := by decide +kernel
theorem dL_tick_15 : decode cL_tick 15 = .ok (.iconst 0, 1) := by decide +kernel
theorem dL_tick_16 : decode cL_tick 16 = .ok (.ireturn, 1) := by decide +kernel
theorem dL_createTask_0 : decode cL_createTask 0 = .ok (.aload 4, 2) := by decide +kernel
theorem dL_createTask_2 : decode cL_createTask 2 = .ok (.iconst 0, 1) := by decide +kernel
theorem dL_createTask_3 : decode cL_createTask 3 = .ok (.aload_n 0, 1) := by decide +kernel
theorem dL_createTask_4 : decode cL_createTask 4 = .ok (.iload_n 1, 1) := by decide +kernel
theorem dL_createTask_5 : decode cL_createTask 5 = .ok (.iload_n 2, 1) := by decide +kernel
theorem dL_createTask_6 : decode cL_createTask 6 = .ok (.iload_n 3, 1) := by decide +kernel
theorem dL_createTask_7 : decode cL_createTask 7 = .ok (.invokevirtual 18, 3) := by decide +kernel
theorem dL_createTask_10 : decode cL_createTask 10 = .ok (.i2l, 1) := by decide +kernel
theorem dL_createTask_11 : decode cL_createTask 11 = .ok (.lastore, 1) := by decide +kernel
theorem dL_createTask_12 : decode cL_createTask 12 = .ok (.goto 11, 3) := by decide +kernel
theorem dL_createTask_15 : decode cL_createTask 15 = .ok (.astore 5, 2) := by decide +kernel
theorem dL_createTask_17 : decode cL_createTask 17 = .ok (.iconst 1, 1) := by decide +kernel
theorem dL_createTask_18 : decode cL_createTask 18 = .ok (.ireturn, 1) := by decide +kernel
theorem dL_createTask_19 : decode cL_createTask 19 = .ok (.astore 5, 2) := by decide +kernel
theorem dL_createTask_21 : decode cL_createTask 21 = .ok (.iconst 2, 1) := by decide +kernel
theorem dL_createTask_22 : decode cL_createTask 22 = .ok (.ireturn, 1) := by decide +kernel
theorem dL_createTask_23 : decode cL_createTask 23 = .ok (.iconst 0, 1) := by decide +kernel
theorem dL_createTask_24 : decode cL_createTask 24 = .ok (.ireturn, 1) := by decide +kernel
theorem dL_sleep_0 : decode cL_sleep 0 = .ok (.aload_n 2, 1) := by decide +kernel
theorem dL_sleep_1 : decode cL_sleep 1 = .ok (.iconst 0, 1) := by decide +kernel
theorem dL_sleep_2 : decode cL_sleep 2 = .ok (.aload_n 0, 1) := by decide +kernel
theorem dL_sleep_3 : decode cL_sleep 3 = .ok (.iload_n 1, 1) := by decide +kernel
theorem dL_sleep_4 : decode cL_sleep 4 = .ok (.invokevirtual 24, 3) := by decide +kernel
theorem dL_sleep_7 : decode cL_sleep 7 = .ok (.i2l, 1) := by decide +kernel
theorem dL_sleep_8 : decode cL_sleep 8 = .ok (.lastore, 1) := by decide +kernel
theorem dL_sleep_9 : decode cL_sleep 9 = .ok (.goto 9, 3) := by decide +kernel
theorem dL_sleep_12 : decode cL_sleep 12 = .ok (.astore_n 3, 1) := by decide +kernel
theorem dL_sleep_13 : decode cL_sleep 13 = .ok (.iconst 1, 1) := by decide +kernel
theorem dL_sleep_14 : decode cL_sleep 14 = .ok (.ireturn, 1) := by decide +kernel
theorem dL_sleep_15 : decode cL_sleep 15 = .ok (.astore_n 3, 1) := by decide +kernel
theorem dL_sleep_16 : decode cL_sleep 16 = .ok (.iconst 2, 1) := by decide +kernel
theorem dL_sleep_17 : decode cL_sleep 17 = .ok (.ireturn, 1) := by decide +kernel
theorem dL_sleep_18 : decode cL_sleep 18 = .ok (.iconst 0, 1) := by decide +kernel
theorem dL_sleep_19 : decode cL_sleep 19 = .ok (.ireturn, 1) := by decide +kernel
theorem dL_wake_0 : decode cL_wake 0 = .ok (.aload_n 2, 1) := by decide +kernel
theorem dL_wake_1 : decode cL_wake 1 = .ok (.iconst 0, 1) := by decide +kernel
theorem dL_wake_2 : decode cL_wake 2 = .ok (.aload_n 0, 1) := by decide +kernel
theorem dL_wake_3 : decode cL_wake 3 = .ok (.iload_n 1, 1) := by decide +kernel
theorem dL_wake_4 : decode cL_wake 4 = .ok (.invokevirtual 27, 3) := by decide +kernel
theorem dL_wake_7 : decode cL_wake 7 = .ok (.lastore, 1) := by decide +kernel
theorem dL_wake_8 : decode cL_wake 8 = .ok (.goto 9, 3) := by decide +kernel
theorem dL_wake_11 : decode cL_wake 11 = .ok (.astore_n 3, 1) := by decide +kernel
theorem dL_wake_12 : decode cL_wake 12 = .ok (.iconst 1, 1) := by decide +kernel
theorem dL_wake_13 : decode cL_wake 13 = .ok (.ireturn, 1) := by decide +kernel
theorem dL_wake_14 : decode cL_wake 14 = .ok (.astore_n 3, 1) := by decide +kernel
theorem dL_wake_15 : decode cL_wake 15 = .ok (.iconst 2, 1) := by decide +kernel
theorem dL_wake_16 : decode cL_wake 16 = .ok (.ireturn, 1) := by decide +kernel
theorem dL_wake_17 : decode cL_wake 17 = .ok (.iconst 0, 1) := by decide +kernel
theorem dL_wake_18 : decode cL_wake 18 = .ok (.ireturn, 1) := by decide +kernel
theorem dL_exit_0 : decode cL_exit 0 = .ok (.aload_n 2, 1) := by decide +kernel
theorem dL_exit_1 : decode cL_exit 1 = .ok (.iconst 0, 1) := by decide +kernel
theorem dL_exit_2 : decode cL_exit 2 = .ok (.aload_n 0, 1) := by decide +kernel
theorem dL_exit_3 : decode cL_exit 3 = .ok (.iload_n 1, 1) := by decide +kernel
theorem dL_exit_4 : decode cL_exit 4 = .ok (.invokevirtual 31, 3) := by decide +kernel
theorem dL_exit_7 : decode cL_exit 7 = .ok (.i2l, 1) := by decide +kernel
theorem dL_exit_8 : decode cL_exit 8 = .ok (.lastore, 1) := by decide +kernel
theorem dL_exit_9 : decode cL_exit 9 = .ok (.goto 9, 3) := by decide +kernel
theorem dL_exit_12 : decode cL_exit 12 = .ok (.astore_n 3, 1) := by decide +kernel
theorem dL_exit_13 : decode cL_exit 13 = .ok (.iconst 1, 1) := by decide +kernel
theorem dL_exit_14 : decode cL_exit 14 = .ok (.ireturn, 1) := by decide +kernel
theorem dL_exit_15 : decode cL_exit 15 = .ok (.astore_n 3, 1) := by decide +kernel
theorem dL_exit_16 : decode cL_exit 16 = .ok (.iconst 2, 1) := by decide +kernel
theorem dL_exit_17 : decode cL_exit 17 = .ok (.ireturn, 1) := by decide +kernel
theorem dL_exit_18 : decode cL_exit 18 = .ok (.iconst 0, 1) := by decide +kernel
theorem dL_exit_19 : decode cL_exit 19 = .ok (.ireturn, 1) := by decide +kernel
theorem dL_setWeight_0 : decode cL_setWeight 0 = .ok (.aload_n 3, 1) := by decide +kernel
theorem dL_setWeight_1 : decode cL_setWeight 1 = .ok (.iconst 0, 1) := by decide +kernel
theorem dL_setWeight_2 : decode cL_setWeight 2 = .ok (.aload_n 0, 1) := by decide +kernel
theorem dL_setWeight_3 : decode cL_setWeight 3 = .ok (.iload_n 1, 1) := by decide +kernel
theorem dL_setWeight_4 : decode cL_setWeight 4 = .ok (.iload_n 2, 1) := by decide +kernel
theorem dL_setWeight_5 : decode cL_setWeight 5 = .ok (.invokevirtual 34, 3) := by decide +kernel
theorem dL_setWeight_8 : decode cL_setWeight 8 = .ok (.i2l, 1) := by decide +kernel
theorem dL_setWeight_9 : decode cL_setWeight 9 = .ok (.lastore, 1) := by decide +kernel
theorem dL_setWeight_10 : decode cL_setWeight 10 = .ok (.goto 11, 3) := by decide +kernel
theorem dL_setWeight_13 : decode cL_setWeight 13 = .ok (.astore 4, 2) := by decide +kernel
theorem dL_setWeight_15 : decode cL_setWeight 15 = .ok (.iconst 1, 1) := by decide +kernel
theorem dL_setWeight_16 : decode cL_setWeight 16 = .ok (.ireturn, 1) := by decide +kernel
theorem dL_setWeight_17 : decode cL_setWeight 17 = .ok (.astore 4, 2) := by decide +kernel
theorem dL_setWeight_19 : decode cL_setWeight 19 = .ok (.iconst 2, 1) := by decide +kernel
theorem dL_setWeight_20 : decode cL_setWeight 20 = .ok (.ireturn, 1) := by decide +kernel
theorem dL_setWeight_21 : decode cL_setWeight 21 = .ok (.iconst 0, 1) := by decide +kernel
theorem dL_setWeight_22 : decode cL_setWeight 22 = .ok (.ireturn, 1) := by decide +kernel
theorem dL_setCookie_0 : decode cL_setCookie 0 = .ok (.aload_n 3, 1) := by decide +kernel
theorem dL_setCookie_1 : decode cL_setCookie 1 = .ok (.iconst 0, 1) := by decide +kernel
theorem dL_setCookie_2 : decode cL_setCookie 2 = .ok (.aload_n 0, 1) := by decide +kernel
theorem dL_setCookie_3 : decode cL_setCookie 3 = .ok (.iload_n 1, 1) := by decide +kernel
theorem dL_setCookie_4 : decode cL_setCookie 4 = .ok (.iload_n 2, 1) := by decide +kernel
theorem dL_setCookie_5 : decode cL_setCookie 5 = .ok (.invokevirtual 38, 3) := by decide +kernel
theorem dL_setCookie_8 : decode cL_setCookie 8 = .ok (.i2l, 1) := by decide +kernel
theorem dL_setCookie_9 : decode cL_setCookie 9 = .ok (.lastore, 1) := by decide +kernel
theorem dL_setCookie_10 : decode cL_setCookie 10 = .ok (.goto 11, 3) := by decide +kernel
theorem dL_setCookie_13 : decode cL_setCookie 13 = .ok (.astore 4, 2) := by decide +kernel
theorem dL_setCookie_15 : decode cL_setCookie 15 = .ok (.iconst 1, 1) := by decide +kernel
theorem dL_setCookie_16 : decode cL_setCookie 16 = .ok (.ireturn, 1) := by decide +kernel
theorem dL_setCookie_17 : decode cL_setCookie 17 = .ok (.astore 4, 2) := by decide +kernel
theorem dL_setCookie_19 : decode cL_setCookie 19 = .ok (.iconst 2, 1) := by decide +kernel
theorem dL_setCookie_20 : decode cL_setCookie 20 = .ok (.ireturn, 1) := by decide +kernel
theorem dL_setCookie_21 : decode cL_setCookie 21 = .ok (.iconst 0, 1) := by decide +kernel
theorem dL_setCookie_22 : decode cL_setCookie 22 = .ok (.ireturn, 1) := by decide +kernel
theorem dL_moveTask_0 : decode cL_moveTask 0 = .ok (.aload_n 3, 1) := by decide +kernel
theorem dL_moveTask_1 : decode cL_moveTask 1 = .ok (.iconst 0, 1) := by decide +kernel
theorem dL_moveTask_2 : decode cL_moveTask 2 = .ok (.aload_n 0, 1) := by decide +kernel
theorem dL_moveTask_3 : decode cL_moveTask 3 = .ok (.iload_n 1, 1) := by decide +kernel
theorem dL_moveTask_4 : decode cL_moveTask 4 = .ok (.iload_n 2, 1) := by decide +kernel
theorem dL_moveTask_5 : decode cL_moveTask 5 = .ok (.invokevirtual 41, 3) := by decide +kernel
theorem dL_moveTask_8 : decode cL_moveTask 8 = .ok (.i2l, 1) := by decide +kernel
theorem dL_moveTask_9 : decode cL_moveTask 9 = .ok (.lastore, 1) := by decide +kernel
theorem dL_moveTask_10 : decode cL_moveTask 10 = .ok (.goto 11, 3) := by decide +kernel
theorem dL_moveTask_13 : decode cL_moveTask 13 = .ok (.astore 4, 2) := by decide +kernel
theorem dL_moveTask_15 : decode cL_moveTask 15 = .ok (.iconst 1, 1) := by decide +kernel
theorem dL_moveTask_16 : decode cL_moveTask 16 = .ok (.ireturn, 1) := by decide +kernel
theorem dL_moveTask_17 : decode cL_moveTask 17 = .ok (.astore 4, 2) := by decide +kernel
theorem dL_moveTask_19 : decode cL_moveTask 19 = .ok (.iconst 2, 1) := by decide +kernel
theorem dL_moveTask_20 : decode cL_moveTask 20 = .ok (.ireturn, 1) := by decide +kernel
theorem dL_moveTask_21 : decode cL_moveTask 21 = .ok (.iconst 0, 1) := by decide +kernel
theorem dL_moveTask_22 : decode cL_moveTask 22 = .ok (.ireturn, 1) := by decide +kernel
theorem dL_stateOf_0 : decode cL_stateOf 0 = .ok (.aload_n 2, 1) := by decide +kernel
theorem dL_stateOf_1 : decode cL_stateOf 1 = .ok (.iconst 0, 1) := by decide +kernel
theorem dL_stateOf_2 : decode cL_stateOf 2 = .ok (.aload_n 0, 1) := by decide +kernel
theorem dL_stateOf_3 : decode cL_stateOf 3 = .ok (.iload_n 1, 1) := by decide +kernel
theorem dL_stateOf_4 : decode cL_stateOf 4 = .ok (.invokevirtual 44, 3) := by decide +kernel
theorem dL_stateOf_7 : decode cL_stateOf 7 = .ok (.i2l, 1) := by decide +kernel
theorem dL_stateOf_8 : decode cL_stateOf 8 = .ok (.lastore, 1) := by decide +kernel
theorem dL_stateOf_9 : decode cL_stateOf 9 = .ok (.goto 6, 3) := by decide +kernel
theorem dL_stateOf_12 : decode cL_stateOf 12 = .ok (.astore_n 3, 1) := by decide +kernel
theorem dL_stateOf_13 : decode cL_stateOf 13 = .ok (.iconst 1, 1) := by decide +kernel
theorem dL_stateOf_14 : decode cL_stateOf 14 = .ok (.ireturn, 1) := by decide +kernel
theorem dL_stateOf_15 : decode cL_stateOf 15 = .ok (.iconst 0, 1) := by decide +kernel
theorem dL_stateOf_16 : decode cL_stateOf 16 = .ok (.ireturn, 1) := by decide +kernel
theorem dL_cpuOf_0 : decode cL_cpuOf 0 = .ok (.aload_n 2, 1) := by decide +kernel
theorem dL_cpuOf_1 : decode cL_cpuOf 1 = .ok (.iconst 0, 1) := by decide +kernel
theorem dL_cpuOf_2 : decode cL_cpuOf 2 = .ok (.aload_n 0, 1) := by decide +kernel
theorem dL_cpuOf_3 : decode cL_cpuOf 3 = .ok (.iload_n 1, 1) := by decide +kernel
theorem dL_cpuOf_4 : decode cL_cpuOf 4 = .ok (.invokevirtual 47, 3) := by decide +kernel
theorem dL_cpuOf_7 : decode cL_cpuOf 7 = .ok (.i2l, 1) := by decide +kernel
theorem dL_cpuOf_8 : decode cL_cpuOf 8 = .ok (.lastore, 1) := by decide +kernel
theorem dL_cpuOf_9 : decode cL_cpuOf 9 = .ok (.goto 6, 3) := by decide +kernel
theorem dL_cpuOf_12 : decode cL_cpuOf 12 = .ok (.astore_n 3, 1) := by decide +kernel
theorem dL_cpuOf_13 : decode cL_cpuOf 13 = .ok (.iconst 1, 1) := by decide +kernel
theorem dL_cpuOf_14 : decode cL_cpuOf 14 = .ok (.ireturn, 1) := by decide +kernel
theorem dL_cpuOf_15 : decode cL_cpuOf 15 = .ok (.iconst 0, 1) := by decide +kernel
theorem dL_cpuOf_16 : decode cL_cpuOf 16 = .ok (.ireturn, 1) := by decide +kernel
theorem dL_virtualTime_0 : decode cL_virtualTime 0 = .ok (.aload_n 2, 1) := by decide +kernel
theorem dL_virtualTime_1 : decode cL_virtualTime 1 = .ok (.iconst 0, 1) := by decide +kernel
theorem dL_virtualTime_2 : decode cL_virtualTime 2 = .ok (.aload_n 0, 1) := by decide +kernel
theorem dL_virtualTime_3 : decode cL_virtualTime 3 = .ok (.iload_n 1, 1) := by decide +kernel
theorem dL_virtualTime_4 : decode cL_virtualTime 4 = .ok (.invokevirtual 50, 3) := by decide +kernel
theorem dL_virtualTime_7 : decode cL_virtualTime 7 = .ok (.lastore, 1) := by decide +kernel
theorem dL_virtualTime_8 : decode cL_virtualTime 8 = .ok (.goto 6, 3) := by decide +kernel
theorem dL_virtualTime_11 : decode cL_virtualTime 11 = .ok (.astore_n 3, 1) := by decide +kernel
theorem dL_virtualTime_12 : decode cL_virtualTime 12 = .ok (.iconst 1, 1) := by decide +kernel
theorem dL_virtualTime_13 : decode cL_virtualTime 13 = .ok (.ireturn, 1) := by decide +kernel
theorem dL_virtualTime_14 : decode cL_virtualTime 14 = .ok (.iconst 0, 1) := by decide +kernel
theorem dL_virtualTime_15 : decode cL_virtualTime 15 = .ok (.ireturn, 1) := by decide +kernel
theorem dL_runTicks_0 : decode cL_runTicks 0 = .ok (.aload_n 2, 1) := by decide +kernel
theorem dL_runTicks_1 : decode cL_runTicks 1 = .ok (.iconst 0, 1) := by decide +kernel
theorem dL_runTicks_2 : decode cL_runTicks 2 = .ok (.aload_n 0, 1) := by decide +kernel
theorem dL_runTicks_3 : decode cL_runTicks 3 = .ok (.iload_n 1, 1) := by decide +kernel
theorem dL_runTicks_4 : decode cL_runTicks 4 = .ok (.invokevirtual 53, 3) := by decide +kernel
theorem dL_runTicks_7 : decode cL_runTicks 7 = .ok (.i2l, 1) := by decide +kernel
theorem dL_runTicks_8 : decode cL_runTicks 8 = .ok (.lastore, 1) := by decide +kernel
theorem dL_runTicks_9 : decode cL_runTicks 9 = .ok (.goto 6, 3) := by decide +kernel
theorem dL_runTicks_12 : decode cL_runTicks 12 = .ok (.astore_n 3, 1) := by decide +kernel
theorem dL_runTicks_13 : decode cL_runTicks 13 = .ok (.iconst 1, 1) := by decide +kernel
theorem dL_runTicks_14 : decode cL_runTicks 14 = .ok (.ireturn, 1) := by decide +kernel
theorem dL_runTicks_15 : decode cL_runTicks 15 = .ok (.iconst 0, 1) := by decide +kernel
theorem dL_runTicks_16 : decode cL_runTicks 16 = .ok (.ireturn, 1) := by decide +kernel
theorem dL_waitTicks_0 : decode cL_waitTicks 0 = .ok (.aload_n 2, 1) := by decide +kernel
theorem dL_waitTicks_1 : decode cL_waitTicks 1 = .ok (.iconst 0, 1) := by decide +kernel
theorem dL_waitTicks_2 : decode cL_waitTicks 2 = .ok (.aload_n 0, 1) := by decide +kernel
theorem dL_waitTicks_3 : decode cL_waitTicks 3 = .ok (.iload_n 1, 1) := by decide +kernel
theorem dL_waitTicks_4 : decode cL_waitTicks 4 = .ok (.invokevirtual 56, 3) := by decide +kernel
theorem dL_waitTicks_7 : decode cL_waitTicks 7 = .ok (.i2l, 1) := by decide +kernel
theorem dL_waitTicks_8 : decode cL_waitTicks 8 = .ok (.lastore, 1) := by decide +kernel
theorem dL_waitTicks_9 : decode cL_waitTicks 9 = .ok (.goto 6, 3) := by decide +kernel
theorem dL_waitTicks_12 : decode cL_waitTicks 12 = .ok (.astore_n 3, 1) := by decide +kernel
theorem dL_waitTicks_13 : decode cL_waitTicks 13 = .ok (.iconst 1, 1) := by decide +kernel
theorem dL_waitTicks_14 : decode cL_waitTicks 14 = .ok (.ireturn, 1) := by decide +kernel
theorem dL_waitTicks_15 : decode cL_waitTicks 15 = .ok (.iconst 0, 1) := by decide +kernel
theorem dL_waitTicks_16 : decode cL_waitTicks 16 = .ok (.ireturn, 1) := by decide +kernel
theorem dL_share_0 : decode cL_share 0 = .ok (.aload_n 2, 1) := by decide +kernel
theorem dL_share_1 : decode cL_share 1 = .ok (.iconst 0, 1) := by decide +kernel
theorem dL_share_2 : decode cL_share 2 = .ok (.aload_n 0, 1) := by decide +kernel
theorem dL_share_3 : decode cL_share 3 = .ok (.iload_n 1, 1) := by decide +kernel
theorem dL_share_4 : decode cL_share 4 = .ok (.invokevirtual 59, 3) := by decide +kernel
theorem dL_share_7 : decode cL_share 7 = .ok (.dastore, 1) := by decide +kernel
theorem dL_share_8 : decode cL_share 8 = .ok (.goto 6, 3) := by decide +kernel
theorem dL_share_11 : decode cL_share 11 = .ok (.astore_n 3, 1) := by decide +kernel
theorem dL_share_12 : decode cL_share 12 = .ok (.iconst 1, 1) := by decide +kernel
theorem dL_share_13 : decode cL_share 13 = .ok (.ireturn, 1) := by decide +kernel
theorem dL_share_14 : decode cL_share 14 = .ok (.iconst 0, 1) := by decide +kernel
theorem dL_share_15 : decode cL_share 15 = .ok (.ireturn, 1) := by decide +kernel
theorem dL_runningTask_0 : decode cL_runningTask 0 = .ok (.aload_n 2, 1) := by decide +kernel
theorem dL_runningTask_1 : decode cL_runningTask 1 = .ok (.iconst 0, 1) := by decide +kernel
theorem dL_runningTask_2 : decode cL_runningTask 2 = .ok (.aload_n 0, 1) := by decide +kernel
theorem dL_runningTask_3 : decode cL_runningTask 3 = .ok (.iload_n 1, 1) := by decide +kernel
theorem dL_runningTask_4 : decode cL_runningTask 4 = .ok (.invokevirtual 63, 3) := by decide +kernel
theorem dL_runningTask_7 : decode cL_runningTask 7 = .ok (.i2l, 1) := by decide +kernel
theorem dL_runningTask_8 : decode cL_runningTask 8 = .ok (.lastore, 1) := by decide +kernel
theorem dL_runningTask_9 : decode cL_runningTask 9 = .ok (.goto 6, 3) := by decide +kernel
theorem dL_runningTask_12 : decode cL_runningTask 12 = .ok (.astore_n 3, 1) := by decide +kernel
theorem dL_runningTask_13 : decode cL_runningTask 13 = .ok (.iconst 1, 1) := by decide +kernel
theorem dL_runningTask_14 : decode cL_runningTask 14 = .ok (.ireturn, 1) := by decide +kernel
theorem dL_runningTask_15 : decode cL_runningTask 15 = .ok (.iconst 0, 1) := by decide +kernel
theorem dL_runningTask_16 : decode cL_runningTask 16 = .ok (.ireturn, 1) := by decide +kernel
theorem dL_coreCookie_0 : decode cL_coreCookie 0 = .ok (.aload_n 2, 1) := by decide +kernel
theorem dL_coreCookie_1 : decode cL_coreCookie 1 = .ok (.iconst 0, 1) := by decide +kernel
theorem dL_coreCookie_2 : decode cL_coreCookie 2 = .ok (.aload_n 0, 1) := by decide +kernel
theorem dL_coreCookie_3 : decode cL_coreCookie 3 = .ok (.iload_n 1, 1) := by decide +kernel
theorem dL_coreCookie_4 : decode cL_coreCookie 4 = .ok (.invokevirtual 66, 3) := by decide +kernel
theorem dL_coreCookie_7 : decode cL_coreCookie 7 = .ok (.i2l, 1) := by decide +kernel
theorem dL_coreCookie_8 : decode cL_coreCookie 8 = .ok (.lastore, 1) := by decide +kernel
theorem dL_coreCookie_9 : decode cL_coreCookie 9 = .ok (.goto 6, 3) := by decide +kernel
theorem dL_coreCookie_12 : decode cL_coreCookie 12 = .ok (.astore_n 3, 1) := by decide +kernel
theorem dL_coreCookie_13 : decode cL_coreCookie 13 = .ok (.iconst 1, 1) := by decide +kernel
theorem dL_coreCookie_14 : decode cL_coreCookie 14 = .ok (.ireturn, 1) := by decide +kernel
theorem dL_coreCookie_15 : decode cL_coreCookie 15 = .ok (.iconst 0, 1) := by decide +kernel
theorem dL_coreCookie_16 : decode cL_coreCookie 16 = .ok (.ireturn, 1) := by decide +kernel
theorem dL_leaderOf_0 : decode cL_leaderOf 0 = .ok (.aload_n 2, 1) := by decide +kernel
theorem dL_leaderOf_1 : decode cL_leaderOf 1 = .ok (.iconst 0, 1) := by decide +kernel
theorem dL_leaderOf_2 : decode cL_leaderOf 2 = .ok (.aload_n 0, 1) := by decide +kernel
theorem dL_leaderOf_3 : decode cL_leaderOf 3 = .ok (.iload_n 1, 1) := by decide +kernel
theorem dL_leaderOf_4 : decode cL_leaderOf 4 = .ok (.invokevirtual 69, 3) := by decide +kernel
theorem dL_leaderOf_7 : decode cL_leaderOf 7 = .ok (.i2l, 1) := by decide +kernel
theorem dL_leaderOf_8 : decode cL_leaderOf 8 = .ok (.lastore, 1) := by decide +kernel
theorem dL_leaderOf_9 : decode cL_leaderOf 9 = .ok (.goto 6, 3) := by decide +kernel
theorem dL_leaderOf_12 : decode cL_leaderOf 12 = .ok (.astore_n 3, 1) := by decide +kernel
theorem dL_leaderOf_13 : decode cL_leaderOf 13 = .ok (.iconst 1, 1) := by decide +kernel
theorem dL_leaderOf_14 : decode cL_leaderOf 14 = .ok (.ireturn, 1) := by decide +kernel
theorem dL_leaderOf_15 : decode cL_leaderOf 15 = .ok (.iconst 0, 1) := by decide +kernel
theorem dL_leaderOf_16 : decode cL_leaderOf 16 = .ok (.ireturn, 1) := by decide +kernel
theorem dL_queueLength_0 : decode cL_queueLength 0 = .ok (.aload_n 2, 1) := by decide +kernel
theorem dL_queueLength_1 : decode cL_queueLength 1 = .ok (.iconst 0, 1) := by decide +kernel
theorem dL_queueLength_2 : decode cL_queueLength 2 = .ok (.aload_n 0, 1) := by decide +kernel
theorem dL_queueLength_3 : decode cL_queueLength 3 = .ok (.iload_n 1, 1) := by decide +kernel
theorem dL_queueLength_4 : decode cL_queueLength 4 = .ok (.invokevirtual 72, 3) := by decide +kernel
theorem dL_queueLength_7 : decode cL_queueLength 7 = .ok (.i2l, 1) := by decide +kernel
theorem dL_queueLength_8 : decode cL_queueLength 8 = .ok (.lastore, 1) := by decide +kernel
theorem dL_queueLength_9 : decode cL_queueLength 9 = .ok (.goto 6, 3) := by decide +kernel
theorem dL_queueLength_12 : decode cL_queueLength 12 = .ok (.astore_n 3, 1) := by decide +kernel
theorem dL_queueLength_13 : decode cL_queueLength 13 = .ok (.iconst 1, 1) := by decide +kernel
theorem dL_queueLength_14 : decode cL_queueLength 14 = .ok (.ireturn, 1) := by decide +kernel
theorem dL_queueLength_15 : decode cL_queueLength 15 = .ok (.iconst 0, 1) := by decide +kernel
theorem dL_queueLength_16 : decode cL_queueLength 16 = .ok (.ireturn, 1) := by decide +kernel
theorem dL_queuedTask_0 : decode cL_queuedTask 0 = .ok (.aload_n 3, 1) := by decide +kernel
theorem dL_queuedTask_1 : decode cL_queuedTask 1 = .ok (.iconst 0, 1) := by decide +kernel
theorem dL_queuedTask_2 : decode cL_queuedTask 2 = .ok (.aload_n 0, 1) := by decide +kernel
theorem dL_queuedTask_3 : decode cL_queuedTask 3 = .ok (.iload_n 1, 1) := by decide +kernel
theorem dL_queuedTask_4 : decode cL_queuedTask 4 = .ok (.iload_n 2, 1) := by decide +kernel
theorem dL_queuedTask_5 : decode cL_queuedTask 5 = .ok (.invokevirtual 75, 3) := by decide +kernel
theorem dL_queuedTask_8 : decode cL_queuedTask 8 = .ok (.i2l, 1) := by decide +kernel
theorem dL_queuedTask_9 : decode cL_queuedTask 9 = .ok (.lastore, 1) := by decide +kernel
theorem dL_queuedTask_10 : decode cL_queuedTask 10 = .ok (.goto 11, 3) := by decide +kernel
theorem dL_queuedTask_13 : decode cL_queuedTask 13 = .ok (.astore 4, 2) := by decide +kernel
theorem dL_queuedTask_15 : decode cL_queuedTask 15 = .ok (.iconst 1, 1) := by decide +kernel
theorem dL_queuedTask_16 : decode cL_queuedTask 16 = .ok (.ireturn, 1) := by decide +kernel
theorem dL_queuedTask_17 : decode cL_queuedTask 17 = .ok (.astore 4, 2) := by decide +kernel
theorem dL_queuedTask_19 : decode cL_queuedTask 19 = .ok (.iconst 2, 1) := by decide +kernel
theorem dL_queuedTask_20 : decode cL_queuedTask 20 = .ok (.ireturn, 1) := by decide +kernel
theorem dL_queuedTask_21 : decode cL_queuedTask 21 = .ok (.iconst 0, 1) := by decide +kernel
theorem dL_queuedTask_22 : decode cL_queuedTask 22 = .ok (.ireturn, 1) := by decide +kernel
theorem dL_baseOf_0 : decode cL_baseOf 0 = .ok (.aload_n 2, 1) := by decide +kernel
theorem dL_baseOf_1 : decode cL_baseOf 1 = .ok (.iconst 0, 1) := by decide +kernel
theorem dL_baseOf_2 : decode cL_baseOf 2 = .ok (.aload_n 0, 1) := by decide +kernel
theorem dL_baseOf_3 : decode cL_baseOf 3 = .ok (.iload_n 1, 1) := by decide +kernel
theorem dL_baseOf_4 : decode cL_baseOf 4 = .ok (.invokevirtual 80, 3) := by decide +kernel
theorem dL_baseOf_7 : decode cL_baseOf 7 = .ok (.lastore, 1) := by decide +kernel
theorem dL_baseOf_8 : decode cL_baseOf 8 = .ok (.goto 6, 3) := by decide +kernel
theorem dL_baseOf_11 : decode cL_baseOf 11 = .ok (.astore_n 3, 1) := by decide +kernel
theorem dL_baseOf_12 : decode cL_baseOf 12 = .ok (.iconst 1, 1) := by decide +kernel
theorem dL_baseOf_13 : decode cL_baseOf 13 = .ok (.ireturn, 1) := by decide +kernel
theorem dL_baseOf_14 : decode cL_baseOf 14 = .ok (.iconst 0, 1) := by decide +kernel
theorem dL_baseOf_15 : decode cL_baseOf 15 = .ok (.ireturn, 1) := by decide +kernel
theorem dL_idleTicks_0 : decode cL_idleTicks 0 = .ok (.aload_n 2, 1) := by decide +kernel
theorem dL_idleTicks_1 : decode cL_idleTicks 1 = .ok (.iconst 0, 1) := by decide +kernel
theorem dL_idleTicks_2 : decode cL_idleTicks 2 = .ok (.aload_n 0, 1) := by decide +kernel
theorem dL_idleTicks_3 : decode cL_idleTicks 3 = .ok (.iload_n 1, 1) := by decide +kernel
theorem dL_idleTicks_4 : decode cL_idleTicks 4 = .ok (.invokevirtual 83, 3) := by decide +kernel
theorem dL_idleTicks_7 : decode cL_idleTicks 7 = .ok (.i2l, 1) := by decide +kernel
theorem dL_idleTicks_8 : decode cL_idleTicks 8 = .ok (.lastore, 1) := by decide +kernel
theorem dL_idleTicks_9 : decode cL_idleTicks 9 = .ok (.goto 6, 3) := by decide +kernel
theorem dL_idleTicks_12 : decode cL_idleTicks 12 = .ok (.astore_n 3, 1) := by decide +kernel
theorem dL_idleTicks_13 : decode cL_idleTicks 13 = .ok (.iconst 1, 1) := by decide +kernel
theorem dL_idleTicks_14 : decode cL_idleTicks 14 = .ok (.ireturn, 1) := by decide +kernel
theorem dL_idleTicks_15 : decode cL_idleTicks 15 = .ok (.iconst 0, 1) := by decide +kernel
theorem dL_idleTicks_16 : decode cL_idleTicks 16 = .ok (.ireturn, 1) := by decide +kernel
theorem dL_forcedIdleTicks_0 : decode cL_forcedIdleTicks 0 = .ok (.aload_n 2, 1) := by decide +kernel
theorem dL_forcedIdleTicks_1 : decode cL_forcedIdleTicks 1 = .ok (.iconst 0, 1) := by decide +kernel
theorem dL_forcedIdleTicks_2 : decode cL_forcedIdleTicks 2 = .ok (.aload_n 0, 1) := by decide +kernel
theorem dL_forcedIdleTicks_3 : decode cL_forcedIdleTicks 3 = .ok (.iload_n 1, 1) := by decide +kernel
theorem dL_forcedIdleTicks_4 : decode cL_forcedIdleTicks 4 = .ok (.invokevirtual 86, 3) := by decide +kernel
theorem dL_forcedIdleTicks_7 : decode cL_forcedIdleTicks 7 = .ok (.i2l, 1) := by decide +kernel
theorem dL_forcedIdleTicks_8 : decode cL_forcedIdleTicks 8 = .ok (.lastore, 1) := by decide +kernel
theorem dL_forcedIdleTicks_9 : decode cL_forcedIdleTicks 9 = .ok (.goto 6, 3) := by decide +kernel
theorem dL_forcedIdleTicks_12 : decode cL_forcedIdleTicks 12 = .ok (.astore_n 3, 1) := by decide +kernel
theorem dL_forcedIdleTicks_13 : decode cL_forcedIdleTicks 13 = .ok (.iconst 1, 1) := by decide +kernel
theorem dL_forcedIdleTicks_14 : decode cL_forcedIdleTicks 14 = .ok (.ireturn, 1) := by decide +kernel
theorem dL_forcedIdleTicks_15 : decode cL_forcedIdleTicks 15 = .ok (.iconst 0, 1) := by decide +kernel
theorem dL_forcedIdleTicks_16 : decode cL_forcedIdleTicks 16 = .ok (.ireturn, 1) := by decide +kernel
theorem dL_law_0 : decode cL_law 0 = .ok (.new 8, 3) := by decide +kernel
theorem dL_law_3 : decode cL_law 3 = .ok (.dup, 1) := by decide +kernel
theorem dL_law_4 : decode cL_law 4 = .ok (.invokespecial 89, 3) := by decide +kernel
theorem dL_law_7 : decode cL_law 7 = .ok (.astore_n 1, 1) := by decide +kernel
theorem dL_law_8 : decode cL_law 8 = .ok (.new 90, 3) := by decide +kernel
theorem dL_law_11 : decode cL_law 11 = .ok (.dup, 1) := by decide +kernel
theorem dL_law_12 : decode cL_law 12 = .ok (.invokespecial 92, 3) := by decide +kernel
theorem dL_law_15 : decode cL_law 15 = .ok (.astore_n 2, 1) := by decide +kernel
theorem dL_law_16 : decode cL_law 16 = .ok (.iconst 1, 1) := by decide +kernel
theorem dL_law_17 : decode cL_law 17 = .ok (.newarray .long, 2) := by decide +kernel
theorem dL_law_19 : decode cL_law 19 = .ok (.astore_n 3, 1) := by decide +kernel
theorem dL_law_20 : decode cL_law 20 = .ok (.iconst 1, 1) := by decide +kernel
theorem dL_law_21 : decode cL_law 21 = .ok (.newarray .double, 2) := by decide +kernel
theorem dL_law_23 : decode cL_law 23 = .ok (.astore 4, 2) := by decide +kernel
theorem dL_law_25 : decode cL_law 25 = .ok (.iconst 0, 1) := by decide +kernel
theorem dL_law_26 : decode cL_law 26 = .ok (.istore 5, 2) := by decide +kernel
theorem dL_law_28 : decode cL_law 28 = .ok (.iload 5, 2) := by decide +kernel
theorem dL_law_30 : decode cL_law 30 = .ok (.aload_n 0, 1) := by decide +kernel
theorem dL_law_31 : decode cL_law 31 = .ok (.arraylength, 1) := by decide +kernel
theorem dL_law_32 : decode cL_law 32 = .ok (.iconst 4, 1) := by decide +kernel
theorem dL_law_33 : decode cL_law 33 = .ok (.isub, 1) := by decide +kernel
theorem dL_law_34 : decode cL_law 34 = .ok (.if_icmp .gt 1581, 3) := by decide +kernel
theorem dL_law_37 : decode cL_law 37 = .ok (.aload_n 0, 1) := by decide +kernel
theorem dL_law_38 : decode cL_law 38 = .ok (.iload 5, 2) := by decide +kernel
theorem dL_law_40 : decode cL_law 40 = .ok (.iaload, 1) := by decide +kernel
theorem dL_law_41 : decode cL_law 41 = .ok (.bipush 31, 2) := by decide +kernel
theorem dL_law_43 : decode cL_law 43 = .ok (.iand, 1) := by decide +kernel
theorem dL_law_44 : decode cL_law 44 = .ok (.tableswitch 1565 0 25 #[120, 176, 217, 273, 353, 409, 464, 520, 588, 656, 724, 737, 793, 849, 904, 960, 1016, 1093, 1149, 1205, 1261, 1317, 1385, 1440, 1496, 1552], 120) := by decide +kernel
theorem dL_law_164 : decode cL_law 164 = .ok (.aload_n 1, 1) := by decide +kernel
theorem dL_law_165 : decode cL_law 165 = .ok (.aload_n 0, 1) := by decide +kernel
theorem dL_law_166 : decode cL_law 166 = .ok (.iload 5, 2) := by decide +kernel
theorem dL_law_168 : decode cL_law 168 = .ok (.iconst 1, 1) := by decide +kernel
theorem dL_law_169 : decode cL_law 169 = .ok (.iadd, 1) := by decide +kernel
theorem dL_law_170 : decode cL_law 170 = .ok (.iaload, 1) := by decide +kernel
theorem dL_law_171 : decode cL_law 171 = .ok (.aload_n 3, 1) := by decide +kernel
theorem dL_law_172 : decode cL_law 172 = .ok (.invokestatic 93, 3) := by decide +kernel
theorem dL_law_175 : decode cL_law 175 = .ok (.istore 6, 2) := by decide +kernel
theorem dL_law_177 : decode cL_law 177 = .ok (.aload_n 2, 1) := by decide +kernel
theorem dL_law_178 : decode cL_law 178 = .ok (.aload_n 0, 1) := by decide +kernel
theorem dL_law_179 : decode cL_law 179 = .ok (.iload 5, 2) := by decide +kernel
theorem dL_law_181 : decode cL_law 181 = .ok (.iconst 1, 1) := by decide +kernel
theorem dL_law_182 : decode cL_law 182 = .ok (.iadd, 1) := by decide +kernel
theorem dL_law_183 : decode cL_law 183 = .ok (.iaload, 1) := by decide +kernel
theorem dL_law_184 : decode cL_law 184 = .ok (.invokevirtual 98, 3) := by decide +kernel
theorem dL_law_187 : decode cL_law 187 = .ok (.istore 7, 2) := by decide +kernel
theorem dL_law_189 : decode cL_law 189 = .ok (.aload_n 2, 1) := by decide +kernel
theorem dL_law_190 : decode cL_law 190 = .ok (.invokevirtual 99, 3) := by decide +kernel
theorem dL_law_193 : decode cL_law 193 = .ok (.iload 6, 2) := by decide +kernel
theorem dL_law_195 : decode cL_law 195 = .ok (.if_icmp .eq 5, 3) := by decide +kernel
theorem dL_law_198 : decode cL_law 198 = .ok (.iconst 0, 1) := by decide +kernel
theorem dL_law_199 : decode cL_law 199 = .ok (.ireturn, 1) := by decide +kernel
theorem dL_law_200 : decode cL_law 200 = .ok (.iload 6, 2) := by decide +kernel
theorem dL_law_202 : decode cL_law 202 = .ok (.ifCond .ne 15, 3) := by decide +kernel
theorem dL_law_205 : decode cL_law 205 = .ok (.aload_n 3, 1) := by decide +kernel
theorem dL_law_206 : decode cL_law 206 = .ok (.iconst 0, 1) := by decide +kernel
theorem dL_law_207 : decode cL_law 207 = .ok (.laload, 1) := by decide +kernel
theorem dL_law_208 : decode cL_law 208 = .ok (.iload 7, 2) := by decide +kernel
theorem dL_law_210 : decode cL_law 210 = .ok (.i2l, 1) := by decide +kernel
theorem dL_law_211 : decode cL_law 211 = .ok (.lcmp, 1) := by decide +kernel
theorem dL_law_212 : decode cL_law 212 = .ok (.ifCond .eq 5, 3) := by decide +kernel
theorem dL_law_215 : decode cL_law 215 = .ok (.iconst 0, 1) := by decide +kernel
theorem dL_law_216 : decode cL_law 216 = .ok (.ireturn, 1) := by decide +kernel
theorem dL_law_217 : decode cL_law 217 = .ok (.goto 1392, 3) := by decide +kernel
theorem dL_law_220 : decode cL_law 220 = .ok (.aload_n 1, 1) := by decide +kernel
theorem dL_law_221 : decode cL_law 221 = .ok (.aload_n 0, 1) := by decide +kernel
theorem dL_law_222 : decode cL_law 222 = .ok (.iload 5, 2) := by decide +kernel
theorem dL_law_224 : decode cL_law 224 = .ok (.iconst 1, 1) := by decide +kernel
theorem dL_law_225 : decode cL_law 225 = .ok (.iadd, 1) := by decide +kernel
theorem dL_law_226 : decode cL_law 226 = .ok (.iaload, 1) := by decide +kernel
theorem dL_law_227 : decode cL_law 227 = .ok (.ifCond .eq 7, 3) := by decide +kernel
theorem dL_law_230 : decode cL_law 230 = .ok (.iconst 1, 1) := by decide +kernel
theorem dL_law_231 : decode cL_law 231 = .ok (.goto 4, 3) := by decide +kernel
theorem dL_law_234 : decode cL_law 234 = .ok (.iconst 0, 1) := by decide +kernel
theorem dL_law_235 : decode cL_law 235 = .ok (.invokevirtual 103, 3) := by decide +kernel
theorem dL_law_238 : decode cL_law 238 = .ok (.aload_n 2, 1) := by decide +kernel
theorem dL_law_239 : decode cL_law 239 = .ok (.aload_n 0, 1) := by decide +kernel
theorem dL_law_240 : decode cL_law 240 = .ok (.iload 5, 2) := by decide +kernel
theorem dL_law_242 : decode cL_law 242 = .ok (.iconst 1, 1) := by decide +kernel
theorem dL_law_243 : decode cL_law 243 = .ok (.iadd, 1) := by decide +kernel
theorem dL_law_244 : decode cL_law 244 = .ok (.iaload, 1) := by decide +kernel
theorem dL_law_245 : decode cL_law 245 = .ok (.ifCond .eq 7, 3) := by decide +kernel
theorem dL_law_248 : decode cL_law 248 = .ok (.iconst 1, 1) := by decide +kernel
theorem dL_law_249 : decode cL_law 249 = .ok (.goto 4, 3) := by decide +kernel
theorem dL_law_252 : decode cL_law 252 = .ok (.iconst 0, 1) := by decide +kernel
theorem dL_law_253 : decode cL_law 253 = .ok (.invokevirtual 107, 3) := by decide +kernel
theorem dL_law_256 : decode cL_law 256 = .ok (.if_icmp .eq 1353, 3) := by decide +kernel
theorem dL_law_259 : decode cL_law 259 = .ok (.iconst 0, 1) := by decide +kernel
theorem dL_law_260 : decode cL_law 260 = .ok (.ireturn, 1) := by decide +kernel
theorem dL_law_261 : decode cL_law 261 = .ok (.aload_n 1, 1) := by decide +kernel
theorem dL_law_262 : decode cL_law 262 = .ok (.aload_n 0, 1) := by decide +kernel
theorem dL_law_263 : decode cL_law 263 = .ok (.iload 5, 2) := by decide +kernel
theorem dL_law_265 : decode cL_law 265 = .ok (.iconst 1, 1) := by decide +kernel
theorem dL_law_266 : decode cL_law 266 = .ok (.iadd, 1) := by decide +kernel
theorem dL_law_267 : decode cL_law 267 = .ok (.iaload, 1) := by decide +kernel
theorem dL_law_268 : decode cL_law 268 = .ok (.aload_n 3, 1) := by decide +kernel
theorem dL_law_269 : decode cL_law 269 = .ok (.invokestatic 108, 3) := by decide +kernel
theorem dL_law_272 : decode cL_law 272 = .ok (.istore 6, 2) := by decide +kernel
theorem dL_law_274 : decode cL_law 274 = .ok (.aload_n 2, 1) := by decide +kernel
theorem dL_law_275 : decode cL_law 275 = .ok (.aload_n 0, 1) := by decide +kernel
theorem dL_law_276 : decode cL_law 276 = .ok (.iload 5, 2) := by decide +kernel
theorem dL_law_278 : decode cL_law 278 = .ok (.iconst 1, 1) := by decide +kernel
theorem dL_law_279 : decode cL_law 279 = .ok (.iadd, 1) := by decide +kernel
theorem dL_law_280 : decode cL_law 280 = .ok (.iaload, 1) := by decide +kernel
theorem dL_law_281 : decode cL_law 281 = .ok (.invokevirtual 110, 3) := by decide +kernel
theorem dL_law_284 : decode cL_law 284 = .ok (.istore 7, 2) := by decide +kernel
theorem dL_law_286 : decode cL_law 286 = .ok (.aload_n 2, 1) := by decide +kernel
theorem dL_law_287 : decode cL_law 287 = .ok (.invokevirtual 99, 3) := by decide +kernel
theorem dL_law_290 : decode cL_law 290 = .ok (.iload 6, 2) := by decide +kernel
theorem dL_law_292 : decode cL_law 292 = .ok (.if_icmp .eq 5, 3) := by decide +kernel
theorem dL_law_295 : decode cL_law 295 = .ok (.iconst 0, 1) := by decide +kernel
theorem dL_law_296 : decode cL_law 296 = .ok (.ireturn, 1) := by decide +kernel
theorem dL_law_297 : decode cL_law 297 = .ok (.iload 6, 2) := by decide +kernel
theorem dL_law_299 : decode cL_law 299 = .ok (.ifCond .ne 15, 3) := by decide +kernel
theorem dL_law_302 : decode cL_law 302 = .ok (.aload_n 3, 1) := by decide +kernel
theorem dL_law_303 : decode cL_law 303 = .ok (.iconst 0, 1) := by decide +kernel
theorem dL_law_304 : decode cL_law 304 = .ok (.laload, 1) := by decide +kernel
theorem dL_law_305 : decode cL_law 305 = .ok (.iload 7, 2) := by decide +kernel
theorem dL_law_307 : decode cL_law 307 = .ok (.i2l, 1) := by decide +kernel
theorem dL_law_308 : decode cL_law 308 = .ok (.lcmp, 1) := by decide +kernel
theorem dL_law_309 : decode cL_law 309 = .ok (.ifCond .eq 5, 3) := by decide +kernel
theorem dL_law_312 : decode cL_law 312 = .ok (.iconst 0, 1) := by decide +kernel
theorem dL_law_313 : decode cL_law 313 = .ok (.ireturn, 1) := by decide +kernel
theorem dL_law_314 : decode cL_law 314 = .ok (.goto 1295, 3) := by decide +kernel
theorem dL_law_317 : decode cL_law 317 = .ok (.aload_n 1, 1) := by decide +kernel
theorem dL_law_318 : decode cL_law 318 = .ok (.aload_n 0, 1) := by decide +kernel
theorem dL_law_319 : decode cL_law 319 = .ok (.iload 5, 2) := by decide +kernel
theorem dL_law_321 : decode cL_law 321 = .ok (.iconst 1, 1) := by decide +kernel
theorem dL_law_322 : decode cL_law 322 = .ok (.iadd, 1) := by decide +kernel
theorem dL_law_323 : decode cL_law 323 = .ok (.iaload, 1) := by decide +kernel
theorem dL_law_324 : decode cL_law 324 = .ok (.aload_n 0, 1) := by decide +kernel
theorem dL_law_325 : decode cL_law 325 = .ok (.iload 5, 2) := by decide +kernel
theorem dL_law_327 : decode cL_law 327 = .ok (.iconst 2, 1) := by decide +kernel
theorem dL_law_328 : decode cL_law 328 = .ok (.iadd, 1) := by decide +kernel
theorem dL_law_329 : decode cL_law 329 = .ok (.iaload, 1) := by decide +kernel
theorem dL_law_330 : decode cL_law 330 = .ok (.aload_n 0, 1) := by decide +kernel
theorem dL_law_331 : decode cL_law 331 = .ok (.iload 5, 2) := by decide +kernel
theorem dL_law_333 : decode cL_law 333 = .ok (.iconst 3, 1) := by decide +kernel
theorem dL_law_334 : decode cL_law 334 = .ok (.iadd, 1) := by decide +kernel
theorem dL_law_335 : decode cL_law 335 = .ok (.iaload, 1) := by decide +kernel
theorem dL_law_336 : decode cL_law 336 = .ok (.aload_n 3, 1) := by decide +kernel
theorem dL_law_337 : decode cL_law 337 = .ok (.invokestatic 111, 3) := by decide +kernel
theorem dL_law_340 : decode cL_law 340 = .ok (.istore 6, 2) := by decide +kernel
theorem dL_law_342 : decode cL_law 342 = .ok (.aload_n 2, 1) := by decide +kernel
theorem dL_law_343 : decode cL_law 343 = .ok (.aload_n 0, 1) := by decide +kernel
theorem dL_law_344 : decode cL_law 344 = .ok (.iload 5, 2) := by decide +kernel
theorem dL_law_346 : decode cL_law 346 = .ok (.iconst 1, 1) := by decide +kernel
theorem dL_law_347 : decode cL_law 347 = .ok (.iadd, 1) := by decide +kernel
theorem dL_law_348 : decode cL_law 348 = .ok (.iaload, 1) := by decide +kernel
theorem dL_law_349 : decode cL_law 349 = .ok (.aload_n 0, 1) := by decide +kernel
theorem dL_law_350 : decode cL_law 350 = .ok (.iload 5, 2) := by decide +kernel
theorem dL_law_352 : decode cL_law 352 = .ok (.iconst 2, 1) := by decide +kernel
theorem dL_law_353 : decode cL_law 353 = .ok (.iadd, 1) := by decide +kernel
theorem dL_law_354 : decode cL_law 354 = .ok (.iaload, 1) := by decide +kernel
theorem dL_law_355 : decode cL_law 355 = .ok (.aload_n 0, 1) := by decide +kernel
theorem dL_law_356 : decode cL_law 356 = .ok (.iload 5, 2) := by decide +kernel
theorem dL_law_358 : decode cL_law 358 = .ok (.iconst 3, 1) := by decide +kernel
theorem dL_law_359 : decode cL_law 359 = .ok (.iadd, 1) := by decide +kernel
theorem dL_law_360 : decode cL_law 360 = .ok (.iaload, 1) := by decide +kernel
theorem dL_law_361 : decode cL_law 361 = .ok (.invokevirtual 114, 3) := by decide +kernel
theorem dL_law_364 : decode cL_law 364 = .ok (.istore 7, 2) := by decide +kernel
theorem dL_law_366 : decode cL_law 366 = .ok (.aload_n 2, 1) := by decide +kernel
theorem dL_law_367 : decode cL_law 367 = .ok (.invokevirtual 99, 3) := by decide +kernel
theorem dL_law_370 : decode cL_law 370 = .ok (.iload 6, 2) := by decide +kernel
theorem dL_law_372 : decode cL_law 372 = .ok (.if_icmp .eq 5, 3) := by decide +kernel
theorem dL_law_375 : decode cL_law 375 = .ok (.iconst 0, 1) := by decide +kernel
theorem dL_law_376 : decode cL_law 376 = .ok (.ireturn, 1) := by decide +kernel
theorem dL_law_377 : decode cL_law 377 = .ok (.iload 6, 2) := by decide +kernel
theorem dL_law_379 : decode cL_law 379 = .ok (.ifCond .ne 15, 3) := by decide +kernel
theorem dL_law_382 : decode cL_law 382 = .ok (.aload_n 3, 1) := by decide +kernel
theorem dL_law_383 : decode cL_law 383 = .ok (.iconst 0, 1) := by decide +kernel
theorem dL_law_384 : decode cL_law 384 = .ok (.laload, 1) := by decide +kernel
theorem dL_law_385 : decode cL_law 385 = .ok (.iload 7, 2) := by decide +kernel
theorem dL_law_387 : decode cL_law 387 = .ok (.i2l, 1) := by decide +kernel
theorem dL_law_388 : decode cL_law 388 = .ok (.lcmp, 1) := by decide +kernel
theorem dL_law_389 : decode cL_law 389 = .ok (.ifCond .eq 5, 3) := by decide +kernel
theorem dL_law_392 : decode cL_law 392 = .ok (.iconst 0, 1) := by decide +kernel
theorem dL_law_393 : decode cL_law 393 = .ok (.ireturn, 1) := by decide +kernel
theorem dL_law_394 : decode cL_law 394 = .ok (.goto 1215, 3) := by decide +kernel
theorem dL_law_397 : decode cL_law 397 = .ok (.aload_n 1, 1) := by decide +kernel
theorem dL_law_398 : decode cL_law 398 = .ok (.aload_n 0, 1) := by decide +kernel
theorem dL_law_399 : decode cL_law 399 = .ok (.iload 5, 2) := by decide +kernel
theorem dL_law_401 : decode cL_law 401 = .ok (.iconst 1, 1) := by decide +kernel
theorem dL_law_402 : decode cL_law 402 = .ok (.iadd, 1) := by decide +kernel
theorem dL_law_403 : decode cL_law 403 = .ok (.iaload, 1) := by decide +kernel
theorem dL_law_404 : decode cL_law 404 = .ok (.aload_n 3, 1) := by decide +kernel
theorem dL_law_405 : decode cL_law 405 = .ok (.invokestatic 115, 3) := by decide +kernel
theorem dL_law_408 : decode cL_law 408 = .ok (.istore 6, 2) := by decide +kernel
theorem dL_law_410 : decode cL_law 410 = .ok (.aload_n 2, 1) := by decide +kernel
theorem dL_law_411 : decode cL_law 411 = .ok (.aload_n 0, 1) := by decide +kernel
theorem dL_law_412 : decode cL_law 412 = .ok (.iload 5, 2) := by decide +kernel
theorem dL_law_414 : decode cL_law 414 = .ok (.iconst 1, 1) := by decide +kernel
theorem dL_law_415 : decode cL_law 415 = .ok (.iadd, 1) := by decide +kernel
theorem dL_law_416 : decode cL_law 416 = .ok (.iaload, 1) := by decide +kernel
theorem dL_law_417 : decode cL_law 417 = .ok (.invokevirtual 117, 3) := by decide +kernel
theorem dL_law_420 : decode cL_law 420 = .ok (.istore 7, 2) := by decide +kernel
theorem dL_law_422 : decode cL_law 422 = .ok (.aload_n 2, 1) := by decide +kernel
theorem dL_law_423 : decode cL_law 423 = .ok (.invokevirtual 99, 3) := by decide +kernel
theorem dL_law_426 : decode cL_law 426 = .ok (.iload 6, 2) := by decide +kernel
theorem dL_law_428 : decode cL_law 428 = .ok (.if_icmp .eq 5, 3) := by decide +kernel
theorem dL_law_431 : decode cL_law 431 = .ok (.iconst 0, 1) := by decide +kernel
theorem dL_law_432 : decode cL_law 432 = .ok (.ireturn, 1) := by decide +kernel
theorem dL_law_433 : decode cL_law 433 = .ok (.iload 6, 2) := by decide +kernel
theorem dL_law_435 : decode cL_law 435 = .ok (.ifCond .ne 15, 3) := by decide +kernel
theorem dL_law_438 : decode cL_law 438 = .ok (.aload_n 3, 1) := by decide +kernel
theorem dL_law_439 : decode cL_law 439 = .ok (.iconst 0, 1) := by decide +kernel
theorem dL_law_440 : decode cL_law 440 = .ok (.laload, 1) := by decide +kernel
theorem dL_law_441 : decode cL_law 441 = .ok (.iload 7, 2) := by decide +kernel
theorem dL_law_443 : decode cL_law 443 = .ok (.i2l, 1) := by decide +kernel
theorem dL_law_444 : decode cL_law 444 = .ok (.lcmp, 1) := by decide +kernel
theorem dL_law_445 : decode cL_law 445 = .ok (.ifCond .eq 5, 3) := by decide +kernel
theorem dL_law_448 : decode cL_law 448 = .ok (.iconst 0, 1) := by decide +kernel
theorem dL_law_449 : decode cL_law 449 = .ok (.ireturn, 1) := by decide +kernel
theorem dL_law_450 : decode cL_law 450 = .ok (.goto 1159, 3) := by decide +kernel
theorem dL_law_453 : decode cL_law 453 = .ok (.aload_n 1, 1) := by decide +kernel
theorem dL_law_454 : decode cL_law 454 = .ok (.aload_n 0, 1) := by decide +kernel
theorem dL_law_455 : decode cL_law 455 = .ok (.iload 5, 2) := by decide +kernel
theorem dL_law_457 : decode cL_law 457 = .ok (.iconst 1, 1) := by decide +kernel
theorem dL_law_458 : decode cL_law 458 = .ok (.iadd, 1) := by decide +kernel
theorem dL_law_459 : decode cL_law 459 = .ok (.iaload, 1) := by decide +kernel
theorem dL_law_460 : decode cL_law 460 = .ok (.aload_n 3, 1) := by decide +kernel
theorem dL_law_461 : decode cL_law 461 = .ok (.invokestatic 118, 3) := by decide +kernel
theorem dL_law_464 : decode cL_law 464 = .ok (.istore 6, 2) := by decide +kernel
theorem dL_law_466 : decode cL_law 466 = .ok (.aload_n 2, 1) := by decide +kernel
theorem dL_law_467 : decode cL_law 467 = .ok (.aload_n 0, 1) := by decide +kernel
theorem dL_law_468 : decode cL_law 468 = .ok (.iload 5, 2) := by decide +kernel
theorem dL_law_470 : decode cL_law 470 = .ok (.iconst 1, 1) := by decide +kernel
theorem dL_law_471 : decode cL_law 471 = .ok (.iadd, 1) := by decide +kernel
theorem dL_law_472 : decode cL_law 472 = .ok (.iaload, 1) := by decide +kernel
theorem dL_law_473 : decode cL_law 473 = .ok (.invokevirtual 120, 3) := by decide +kernel
theorem dL_law_476 : decode cL_law 476 = .ok (.lstore 7, 2) := by decide +kernel
theorem dL_law_478 : decode cL_law 478 = .ok (.aload_n 2, 1) := by decide +kernel
theorem dL_law_479 : decode cL_law 479 = .ok (.invokevirtual 99, 3) := by decide +kernel
theorem dL_law_482 : decode cL_law 482 = .ok (.iload 6, 2) := by decide +kernel
theorem dL_law_484 : decode cL_law 484 = .ok (.if_icmp .eq 5, 3) := by decide +kernel
theorem dL_law_487 : decode cL_law 487 = .ok (.iconst 0, 1) := by decide +kernel
theorem dL_law_488 : decode cL_law 488 = .ok (.ireturn, 1) := by decide +kernel
theorem dL_law_489 : decode cL_law 489 = .ok (.iload 6, 2) := by decide +kernel
theorem dL_law_491 : decode cL_law 491 = .ok (.ifCond .ne 14, 3) := by decide +kernel
theorem dL_law_494 : decode cL_law 494 = .ok (.aload_n 3, 1) := by decide +kernel
theorem dL_law_495 : decode cL_law 495 = .ok (.iconst 0, 1) := by decide +kernel
theorem dL_law_496 : decode cL_law 496 = .ok (.laload, 1) := by decide +kernel
theorem dL_law_497 : decode cL_law 497 = .ok (.lload 7, 2) := by decide +kernel
theorem dL_law_499 : decode cL_law 499 = .ok (.lcmp, 1) := by decide +kernel
theorem dL_law_500 : decode cL_law 500 = .ok (.ifCond .eq 5, 3) := by decide +kernel
theorem dL_law_503 : decode cL_law 503 = .ok (.iconst 0, 1) := by decide +kernel
theorem dL_law_504 : decode cL_law 504 = .ok (.ireturn, 1) := by decide +kernel
theorem dL_law_505 : decode cL_law 505 = .ok (.goto 1104, 3) := by decide +kernel
theorem dL_law_508 : decode cL_law 508 = .ok (.aload_n 1, 1) := by decide +kernel
theorem dL_law_509 : decode cL_law 509 = .ok (.aload_n 0, 1) := by decide +kernel
theorem dL_law_510 : decode cL_law 510 = .ok (.iload 5, 2) := by decide +kernel
theorem dL_law_512 : decode cL_law 512 = .ok (.iconst 1, 1) := by decide +kernel
theorem dL_law_513 : decode cL_law 513 = .ok (.iadd, 1) := by decide +kernel
theorem dL_law_514 : decode cL_law 514 = .ok (.iaload, 1) := by decide +kernel
theorem dL_law_515 : decode cL_law 515 = .ok (.aload_n 3, 1) := by decide +kernel
theorem dL_law_516 : decode cL_law 516 = .ok (.invokestatic 121, 3) := by decide +kernel
theorem dL_law_519 : decode cL_law 519 = .ok (.istore 6, 2) := by decide +kernel
theorem dL_law_521 : decode cL_law 521 = .ok (.aload_n 2, 1) := by decide +kernel
theorem dL_law_522 : decode cL_law 522 = .ok (.aload_n 0, 1) := by decide +kernel
theorem dL_law_523 : decode cL_law 523 = .ok (.iload 5, 2) := by decide +kernel
theorem dL_law_525 : decode cL_law 525 = .ok (.iconst 1, 1) := by decide +kernel
theorem dL_law_526 : decode cL_law 526 = .ok (.iadd, 1) := by decide +kernel
theorem dL_law_527 : decode cL_law 527 = .ok (.iaload, 1) := by decide +kernel
theorem dL_law_528 : decode cL_law 528 = .ok (.invokevirtual 123, 3) := by decide +kernel
theorem dL_law_531 : decode cL_law 531 = .ok (.istore 7, 2) := by decide +kernel
theorem dL_law_533 : decode cL_law 533 = .ok (.aload_n 2, 1) := by decide +kernel
theorem dL_law_534 : decode cL_law 534 = .ok (.invokevirtual 99, 3) := by decide +kernel
theorem dL_law_537 : decode cL_law 537 = .ok (.iload 6, 2) := by decide +kernel
theorem dL_law_539 : decode cL_law 539 = .ok (.if_icmp .eq 5, 3) := by decide +kernel
theorem dL_law_542 : decode cL_law 542 = .ok (.iconst 0, 1) := by decide +kernel
theorem dL_law_543 : decode cL_law 543 = .ok (.ireturn, 1) := by decide +kernel
theorem dL_law_544 : decode cL_law 544 = .ok (.iload 6, 2) := by decide +kernel
theorem dL_law_546 : decode cL_law 546 = .ok (.ifCond .ne 15, 3) := by decide +kernel
theorem dL_law_549 : decode cL_law 549 = .ok (.aload_n 3, 1) := by decide +kernel
theorem dL_law_550 : decode cL_law 550 = .ok (.iconst 0, 1) := by decide +kernel
theorem dL_law_551 : decode cL_law 551 = .ok (.laload, 1) := by decide +kernel
theorem dL_law_552 : decode cL_law 552 = .ok (.iload 7, 2) := by decide +kernel
theorem dL_law_554 : decode cL_law 554 = .ok (.i2l, 1) := by decide +kernel
theorem dL_law_555 : decode cL_law 555 = .ok (.lcmp, 1) := by decide +kernel
theorem dL_law_556 : decode cL_law 556 = .ok (.ifCond .eq 5, 3) := by decide +kernel
theorem dL_law_559 : decode cL_law 559 = .ok (.iconst 0, 1) := by decide +kernel
theorem dL_law_560 : decode cL_law 560 = .ok (.ireturn, 1) := by decide +kernel
theorem dL_law_561 : decode cL_law 561 = .ok (.goto 1048, 3) := by decide +kernel
theorem dL_law_564 : decode cL_law 564 = .ok (.aload_n 1, 1) := by decide +kernel
theorem dL_law_565 : decode cL_law 565 = .ok (.aload_n 0, 1) := by decide +kernel
theorem dL_law_566 : decode cL_law 566 = .ok (.iload 5, 2) := by decide +kernel
theorem dL_law_568 : decode cL_law 568 = .ok (.iconst 1, 1) := by decide +kernel
theorem dL_law_569 : decode cL_law 569 = .ok (.iadd, 1) := by decide +kernel
theorem dL_law_570 : decode cL_law 570 = .ok (.iaload, 1) := by decide +kernel
theorem dL_law_571 : decode cL_law 571 = .ok (.aload_n 0, 1) := by decide +kernel
theorem dL_law_572 : decode cL_law 572 = .ok (.iload 5, 2) := by decide +kernel
theorem dL_law_574 : decode cL_law 574 = .ok (.iconst 2, 1) := by decide +kernel
theorem dL_law_575 : decode cL_law 575 = .ok (.iadd, 1) := by decide +kernel
theorem dL_law_576 : decode cL_law 576 = .ok (.iaload, 1) := by decide +kernel
theorem dL_law_577 : decode cL_law 577 = .ok (.aload_n 3, 1) := by decide +kernel
theorem dL_law_578 : decode cL_law 578 = .ok (.invokestatic 124, 3) := by decide +kernel
theorem dL_law_581 : decode cL_law 581 = .ok (.istore 6, 2) := by decide +kernel
theorem dL_law_583 : decode cL_law 583 = .ok (.aload_n 2, 1) := by decide +kernel
theorem dL_law_584 : decode cL_law 584 = .ok (.aload_n 0, 1) := by decide +kernel
theorem dL_law_585 : decode cL_law 585 = .ok (.iload 5, 2) := by decide +kernel
theorem dL_law_587 : decode cL_law 587 = .ok (.iconst 1, 1) := by decide +kernel
theorem dL_law_588 : decode cL_law 588 = .ok (.iadd, 1) := by decide +kernel
theorem dL_law_589 : decode cL_law 589 = .ok (.iaload, 1) := by decide +kernel
theorem dL_law_590 : decode cL_law 590 = .ok (.aload_n 0, 1) := by decide +kernel
theorem dL_law_591 : decode cL_law 591 = .ok (.iload 5, 2) := by decide +kernel
theorem dL_law_593 : decode cL_law 593 = .ok (.iconst 2, 1) := by decide +kernel
theorem dL_law_594 : decode cL_law 594 = .ok (.iadd, 1) := by decide +kernel
theorem dL_law_595 : decode cL_law 595 = .ok (.iaload, 1) := by decide +kernel
theorem dL_law_596 : decode cL_law 596 = .ok (.invokevirtual 127, 3) := by decide +kernel
theorem dL_law_599 : decode cL_law 599 = .ok (.istore 7, 2) := by decide +kernel
theorem dL_law_601 : decode cL_law 601 = .ok (.aload_n 2, 1) := by decide +kernel
theorem dL_law_602 : decode cL_law 602 = .ok (.invokevirtual 99, 3) := by decide +kernel
theorem dL_law_605 : decode cL_law 605 = .ok (.iload 6, 2) := by decide +kernel
theorem dL_law_607 : decode cL_law 607 = .ok (.if_icmp .eq 5, 3) := by decide +kernel
theorem dL_law_610 : decode cL_law 610 = .ok (.iconst 0, 1) := by decide +kernel
theorem dL_law_611 : decode cL_law 611 = .ok (.ireturn, 1) := by decide +kernel
theorem dL_law_612 : decode cL_law 612 = .ok (.iload 6, 2) := by decide +kernel
theorem dL_law_614 : decode cL_law 614 = .ok (.ifCond .ne 15, 3) := by decide +kernel
theorem dL_law_617 : decode cL_law 617 = .ok (.aload_n 3, 1) := by decide +kernel
theorem dL_law_618 : decode cL_law 618 = .ok (.iconst 0, 1) := by decide +kernel
theorem dL_law_619 : decode cL_law 619 = .ok (.laload, 1) := by decide +kernel
theorem dL_law_620 : decode cL_law 620 = .ok (.iload 7, 2) := by decide +kernel
theorem dL_law_622 : decode cL_law 622 = .ok (.i2l, 1) := by decide +kernel
theorem dL_law_623 : decode cL_law 623 = .ok (.lcmp, 1) := by decide +kernel
theorem dL_law_624 : decode cL_law 624 = .ok (.ifCond .eq 5, 3) := by decide +kernel
theorem dL_law_627 : decode cL_law 627 = .ok (.iconst 0, 1) := by decide +kernel
theorem dL_law_628 : decode cL_law 628 = .ok (.ireturn, 1) := by decide +kernel
theorem dL_law_629 : decode cL_law 629 = .ok (.goto 980, 3) := by decide +kernel
theorem dL_law_632 : decode cL_law 632 = .ok (.aload_n 1, 1) := by decide +kernel
theorem dL_law_633 : decode cL_law 633 = .ok (.aload_n 0, 1) := by decide +kernel
theorem dL_law_634 : decode cL_law 634 = .ok (.iload 5, 2) := by decide +kernel
theorem dL_law_636 : decode cL_law 636 = .ok (.iconst 1, 1) := by decide +kernel
theorem dL_law_637 : decode cL_law 637 = .ok (.iadd, 1) := by decide +kernel
theorem dL_law_638 : decode cL_law 638 = .ok (.iaload, 1) := by decide +kernel
theorem dL_law_639 : decode cL_law 639 = .ok (.aload_n 0, 1) := by decide +kernel
theorem dL_law_640 : decode cL_law 640 = .ok (.iload 5, 2) := by decide +kernel
theorem dL_law_642 : decode cL_law 642 = .ok (.iconst 2, 1) := by decide +kernel
theorem dL_law_643 : decode cL_law 643 = .ok (.iadd, 1) := by decide +kernel
theorem dL_law_644 : decode cL_law 644 = .ok (.iaload, 1) := by decide +kernel
theorem dL_law_645 : decode cL_law 645 = .ok (.aload_n 3, 1) := by decide +kernel
theorem dL_law_646 : decode cL_law 646 = .ok (.invokestatic 128, 3) := by decide +kernel
theorem dL_law_649 : decode cL_law 649 = .ok (.istore 6, 2) := by decide +kernel
theorem dL_law_651 : decode cL_law 651 = .ok (.aload_n 2, 1) := by decide +kernel
theorem dL_law_652 : decode cL_law 652 = .ok (.aload_n 0, 1) := by decide +kernel
theorem dL_law_653 : decode cL_law 653 = .ok (.iload 5, 2) := by decide +kernel
theorem dL_law_655 : decode cL_law 655 = .ok (.iconst 1, 1) := by decide +kernel
theorem dL_law_656 : decode cL_law 656 = .ok (.iadd, 1) := by decide +kernel
theorem dL_law_657 : decode cL_law 657 = .ok (.iaload, 1) := by decide +kernel
theorem dL_law_658 : decode cL_law 658 = .ok (.aload_n 0, 1) := by decide +kernel
theorem dL_law_659 : decode cL_law 659 = .ok (.iload 5, 2) := by decide +kernel
theorem dL_law_661 : decode cL_law 661 = .ok (.iconst 2, 1) := by decide +kernel
theorem dL_law_662 : decode cL_law 662 = .ok (.iadd, 1) := by decide +kernel
theorem dL_law_663 : decode cL_law 663 = .ok (.iaload, 1) := by decide +kernel
theorem dL_law_664 : decode cL_law 664 = .ok (.invokevirtual 130, 3) := by decide +kernel
theorem dL_law_667 : decode cL_law 667 = .ok (.istore 7, 2) := by decide +kernel
theorem dL_law_669 : decode cL_law 669 = .ok (.aload_n 2, 1) := by decide +kernel
theorem dL_law_670 : decode cL_law 670 = .ok (.invokevirtual 99, 3) := by decide +kernel
theorem dL_law_673 : decode cL_law 673 = .ok (.iload 6, 2) := by decide +kernel
theorem dL_law_675 : decode cL_law 675 = .ok (.if_icmp .eq 5, 3) := by decide +kernel
theorem dL_law_678 : decode cL_law 678 = .ok (.iconst 0, 1) := by decide +kernel
theorem dL_law_679 : decode cL_law 679 = .ok (.ireturn, 1) := by decide +kernel
theorem dL_law_680 : decode cL_law 680 = .ok (.iload 6, 2) := by decide +kernel
theorem dL_law_682 : decode cL_law 682 = .ok (.ifCond .ne 15, 3) := by decide +kernel
theorem dL_law_685 : decode cL_law 685 = .ok (.aload_n 3, 1) := by decide +kernel
theorem dL_law_686 : decode cL_law 686 = .ok (.iconst 0, 1) := by decide +kernel
theorem dL_law_687 : decode cL_law 687 = .ok (.laload, 1) := by decide +kernel
theorem dL_law_688 : decode cL_law 688 = .ok (.iload 7, 2) := by decide +kernel
theorem dL_law_690 : decode cL_law 690 = .ok (.i2l, 1) := by decide +kernel
theorem dL_law_691 : decode cL_law 691 = .ok (.lcmp, 1) := by decide +kernel
theorem dL_law_692 : decode cL_law 692 = .ok (.ifCond .eq 5, 3) := by decide +kernel
theorem dL_law_695 : decode cL_law 695 = .ok (.iconst 0, 1) := by decide +kernel
theorem dL_law_696 : decode cL_law 696 = .ok (.ireturn, 1) := by decide +kernel
theorem dL_law_697 : decode cL_law 697 = .ok (.goto 912, 3) := by decide +kernel
theorem dL_law_700 : decode cL_law 700 = .ok (.aload_n 1, 1) := by decide +kernel
theorem dL_law_701 : decode cL_law 701 = .ok (.aload_n 0, 1) := by decide +kernel
theorem dL_law_702 : decode cL_law 702 = .ok (.iload 5, 2) := by decide +kernel
theorem dL_law_704 : decode cL_law 704 = .ok (.iconst 1, 1) := by decide +kernel
theorem dL_law_705 : decode cL_law 705 = .ok (.iadd, 1) := by decide +kernel
theorem dL_law_706 : decode cL_law 706 = .ok (.iaload, 1) := by decide +kernel
theorem dL_law_707 : decode cL_law 707 = .ok (.aload_n 0, 1) := by decide +kernel
theorem dL_law_708 : decode cL_law 708 = .ok (.iload 5, 2) := by decide +kernel
theorem dL_law_710 : decode cL_law 710 = .ok (.iconst 2, 1) := by decide +kernel
theorem dL_law_711 : decode cL_law 711 = .ok (.iadd, 1) := by decide +kernel
theorem dL_law_712 : decode cL_law 712 = .ok (.iaload, 1) := by decide +kernel
theorem dL_law_713 : decode cL_law 713 = .ok (.aload_n 3, 1) := by decide +kernel
theorem dL_law_714 : decode cL_law 714 = .ok (.invokestatic 131, 3) := by decide +kernel
theorem dL_law_717 : decode cL_law 717 = .ok (.istore 6, 2) := by decide +kernel
theorem dL_law_719 : decode cL_law 719 = .ok (.aload_n 2, 1) := by decide +kernel
theorem dL_law_720 : decode cL_law 720 = .ok (.aload_n 0, 1) := by decide +kernel
theorem dL_law_721 : decode cL_law 721 = .ok (.iload 5, 2) := by decide +kernel
theorem dL_law_723 : decode cL_law 723 = .ok (.iconst 1, 1) := by decide +kernel
theorem dL_law_724 : decode cL_law 724 = .ok (.iadd, 1) := by decide +kernel
theorem dL_law_725 : decode cL_law 725 = .ok (.iaload, 1) := by decide +kernel
theorem dL_law_726 : decode cL_law 726 = .ok (.aload_n 0, 1) := by decide +kernel
theorem dL_law_727 : decode cL_law 727 = .ok (.iload 5, 2) := by decide +kernel
theorem dL_law_729 : decode cL_law 729 = .ok (.iconst 2, 1) := by decide +kernel
theorem dL_law_730 : decode cL_law 730 = .ok (.iadd, 1) := by decide +kernel
theorem dL_law_731 : decode cL_law 731 = .ok (.iaload, 1) := by decide +kernel
theorem dL_law_732 : decode cL_law 732 = .ok (.invokevirtual 133, 3) := by decide +kernel
theorem dL_law_735 : decode cL_law 735 = .ok (.istore 7, 2) := by decide +kernel
theorem dL_law_737 : decode cL_law 737 = .ok (.aload_n 2, 1) := by decide +kernel
theorem dL_law_738 : decode cL_law 738 = .ok (.invokevirtual 99, 3) := by decide +kernel
theorem dL_law_741 : decode cL_law 741 = .ok (.iload 6, 2) := by decide +kernel
theorem dL_law_743 : decode cL_law 743 = .ok (.if_icmp .eq 5, 3) := by decide +kernel
theorem dL_law_746 : decode cL_law 746 = .ok (.iconst 0, 1) := by decide +kernel
theorem dL_law_747 : decode cL_law 747 = .ok (.ireturn, 1) := by decide +kernel
theorem dL_law_748 : decode cL_law 748 = .ok (.iload 6, 2) := by decide +kernel
theorem dL_law_750 : decode cL_law 750 = .ok (.ifCond .ne 15, 3) := by decide +kernel
theorem dL_law_753 : decode cL_law 753 = .ok (.aload_n 3, 1) := by decide +kernel
theorem dL_law_754 : decode cL_law 754 = .ok (.iconst 0, 1) := by decide +kernel
theorem dL_law_755 : decode cL_law 755 = .ok (.laload, 1) := by decide +kernel
theorem dL_law_756 : decode cL_law 756 = .ok (.iload 7, 2) := by decide +kernel
theorem dL_law_758 : decode cL_law 758 = .ok (.i2l, 1) := by decide +kernel
theorem dL_law_759 : decode cL_law 759 = .ok (.lcmp, 1) := by decide +kernel
theorem dL_law_760 : decode cL_law 760 = .ok (.ifCond .eq 5, 3) := by decide +kernel
theorem dL_law_763 : decode cL_law 763 = .ok (.iconst 0, 1) := by decide +kernel
theorem dL_law_764 : decode cL_law 764 = .ok (.ireturn, 1) := by decide +kernel
theorem dL_law_765 : decode cL_law 765 = .ok (.goto 844, 3) := by decide +kernel
theorem dL_law_768 : decode cL_law 768 = .ok (.aload_n 1, 1) := by decide +kernel
theorem dL_law_769 : decode cL_law 769 = .ok (.invokevirtual 134, 3) := by decide +kernel
theorem dL_law_772 : decode cL_law 772 = .ok (.aload_n 2, 1) := by decide +kernel
theorem dL_law_773 : decode cL_law 773 = .ok (.invokevirtual 137, 3) := by decide +kernel
theorem dL_law_776 : decode cL_law 776 = .ok (.if_icmp .eq 833, 3) := by decide +kernel
theorem dL_law_779 : decode cL_law 779 = .ok (.iconst 0, 1) := by decide +kernel
theorem dL_law_780 : decode cL_law 780 = .ok (.ireturn, 1) := by decide +kernel
theorem dL_law_781 : decode cL_law 781 = .ok (.aload_n 1, 1) := by decide +kernel
theorem dL_law_782 : decode cL_law 782 = .ok (.aload_n 0, 1) := by decide +kernel
theorem dL_law_783 : decode cL_law 783 = .ok (.iload 5, 2) := by decide +kernel
theorem dL_law_785 : decode cL_law 785 = .ok (.iconst 1, 1) := by decide +kernel
theorem dL_law_786 : decode cL_law 786 = .ok (.iadd, 1) := by decide +kernel
theorem dL_law_787 : decode cL_law 787 = .ok (.iaload, 1) := by decide +kernel
theorem dL_law_788 : decode cL_law 788 = .ok (.aload_n 3, 1) := by decide +kernel
theorem dL_law_789 : decode cL_law 789 = .ok (.invokestatic 138, 3) := by decide +kernel
theorem dL_law_792 : decode cL_law 792 = .ok (.istore 6, 2) := by decide +kernel
theorem dL_law_794 : decode cL_law 794 = .ok (.aload_n 2, 1) := by decide +kernel
theorem dL_law_795 : decode cL_law 795 = .ok (.aload_n 0, 1) := by decide +kernel
theorem dL_law_796 : decode cL_law 796 = .ok (.iload 5, 2) := by decide +kernel
theorem dL_law_798 : decode cL_law 798 = .ok (.iconst 1, 1) := by decide +kernel
theorem dL_law_799 : decode cL_law 799 = .ok (.iadd, 1) := by decide +kernel
theorem dL_law_800 : decode cL_law 800 = .ok (.iaload, 1) := by decide +kernel
theorem dL_law_801 : decode cL_law 801 = .ok (.invokevirtual 140, 3) := by decide +kernel
theorem dL_law_804 : decode cL_law 804 = .ok (.istore 7, 2) := by decide +kernel
theorem dL_law_806 : decode cL_law 806 = .ok (.aload_n 2, 1) := by decide +kernel
theorem dL_law_807 : decode cL_law 807 = .ok (.invokevirtual 99, 3) := by decide +kernel
theorem dL_law_810 : decode cL_law 810 = .ok (.iload 6, 2) := by decide +kernel
theorem dL_law_812 : decode cL_law 812 = .ok (.if_icmp .eq 5, 3) := by decide +kernel
theorem dL_law_815 : decode cL_law 815 = .ok (.iconst 0, 1) := by decide +kernel
theorem dL_law_816 : decode cL_law 816 = .ok (.ireturn, 1) := by decide +kernel
theorem dL_law_817 : decode cL_law 817 = .ok (.iload 6, 2) := by decide +kernel
theorem dL_law_819 : decode cL_law 819 = .ok (.ifCond .ne 15, 3) := by decide +kernel
theorem dL_law_822 : decode cL_law 822 = .ok (.aload_n 3, 1) := by decide +kernel
theorem dL_law_823 : decode cL_law 823 = .ok (.iconst 0, 1) := by decide +kernel
theorem dL_law_824 : decode cL_law 824 = .ok (.laload, 1) := by decide +kernel
theorem dL_law_825 : decode cL_law 825 = .ok (.iload 7, 2) := by decide +kernel
theorem dL_law_827 : decode cL_law 827 = .ok (.i2l, 1) := by decide +kernel
theorem dL_law_828 : decode cL_law 828 = .ok (.lcmp, 1) := by decide +kernel
theorem dL_law_829 : decode cL_law 829 = .ok (.ifCond .eq 5, 3) := by decide +kernel
theorem dL_law_832 : decode cL_law 832 = .ok (.iconst 0, 1) := by decide +kernel
theorem dL_law_833 : decode cL_law 833 = .ok (.ireturn, 1) := by decide +kernel
theorem dL_law_834 : decode cL_law 834 = .ok (.goto 775, 3) := by decide +kernel
theorem dL_law_837 : decode cL_law 837 = .ok (.aload_n 1, 1) := by decide +kernel
theorem dL_law_838 : decode cL_law 838 = .ok (.aload_n 0, 1) := by decide +kernel
theorem dL_law_839 : decode cL_law 839 = .ok (.iload 5, 2) := by decide +kernel
theorem dL_law_841 : decode cL_law 841 = .ok (.iconst 1, 1) := by decide +kernel
theorem dL_law_842 : decode cL_law 842 = .ok (.iadd, 1) := by decide +kernel
theorem dL_law_843 : decode cL_law 843 = .ok (.iaload, 1) := by decide +kernel
theorem dL_law_844 : decode cL_law 844 = .ok (.aload_n 3, 1) := by decide +kernel
theorem dL_law_845 : decode cL_law 845 = .ok (.invokestatic 141, 3) := by decide +kernel
theorem dL_law_848 : decode cL_law 848 = .ok (.istore 6, 2) := by decide +kernel
theorem dL_law_850 : decode cL_law 850 = .ok (.aload_n 2, 1) := by decide +kernel
theorem dL_law_851 : decode cL_law 851 = .ok (.aload_n 0, 1) := by decide +kernel
theorem dL_law_852 : decode cL_law 852 = .ok (.iload 5, 2) := by decide +kernel
theorem dL_law_854 : decode cL_law 854 = .ok (.iconst 1, 1) := by decide +kernel
theorem dL_law_855 : decode cL_law 855 = .ok (.iadd, 1) := by decide +kernel
theorem dL_law_856 : decode cL_law 856 = .ok (.iaload, 1) := by decide +kernel
theorem dL_law_857 : decode cL_law 857 = .ok (.invokevirtual 143, 3) := by decide +kernel
theorem dL_law_860 : decode cL_law 860 = .ok (.istore 7, 2) := by decide +kernel
theorem dL_law_862 : decode cL_law 862 = .ok (.aload_n 2, 1) := by decide +kernel
theorem dL_law_863 : decode cL_law 863 = .ok (.invokevirtual 99, 3) := by decide +kernel
theorem dL_law_866 : decode cL_law 866 = .ok (.iload 6, 2) := by decide +kernel
theorem dL_law_868 : decode cL_law 868 = .ok (.if_icmp .eq 5, 3) := by decide +kernel
theorem dL_law_871 : decode cL_law 871 = .ok (.iconst 0, 1) := by decide +kernel
theorem dL_law_872 : decode cL_law 872 = .ok (.ireturn, 1) := by decide +kernel
theorem dL_law_873 : decode cL_law 873 = .ok (.iload 6, 2) := by decide +kernel
theorem dL_law_875 : decode cL_law 875 = .ok (.ifCond .ne 15, 3) := by decide +kernel
theorem dL_law_878 : decode cL_law 878 = .ok (.aload_n 3, 1) := by decide +kernel
theorem dL_law_879 : decode cL_law 879 = .ok (.iconst 0, 1) := by decide +kernel
theorem dL_law_880 : decode cL_law 880 = .ok (.laload, 1) := by decide +kernel
theorem dL_law_881 : decode cL_law 881 = .ok (.iload 7, 2) := by decide +kernel
theorem dL_law_883 : decode cL_law 883 = .ok (.i2l, 1) := by decide +kernel
theorem dL_law_884 : decode cL_law 884 = .ok (.lcmp, 1) := by decide +kernel
theorem dL_law_885 : decode cL_law 885 = .ok (.ifCond .eq 5, 3) := by decide +kernel
theorem dL_law_888 : decode cL_law 888 = .ok (.iconst 0, 1) := by decide +kernel
theorem dL_law_889 : decode cL_law 889 = .ok (.ireturn, 1) := by decide +kernel
theorem dL_law_890 : decode cL_law 890 = .ok (.goto 719, 3) := by decide +kernel
theorem dL_law_893 : decode cL_law 893 = .ok (.aload_n 1, 1) := by decide +kernel
theorem dL_law_894 : decode cL_law 894 = .ok (.aload_n 0, 1) := by decide +kernel
theorem dL_law_895 : decode cL_law 895 = .ok (.iload 5, 2) := by decide +kernel
theorem dL_law_897 : decode cL_law 897 = .ok (.iconst 1, 1) := by decide +kernel
theorem dL_law_898 : decode cL_law 898 = .ok (.iadd, 1) := by decide +kernel
theorem dL_law_899 : decode cL_law 899 = .ok (.iaload, 1) := by decide +kernel
theorem dL_law_900 : decode cL_law 900 = .ok (.aload_n 3, 1) := by decide +kernel
theorem dL_law_901 : decode cL_law 901 = .ok (.invokestatic 144, 3) := by decide +kernel
theorem dL_law_904 : decode cL_law 904 = .ok (.istore 6, 2) := by decide +kernel
theorem dL_law_906 : decode cL_law 906 = .ok (.aload_n 2, 1) := by decide +kernel
theorem dL_law_907 : decode cL_law 907 = .ok (.aload_n 0, 1) := by decide +kernel
theorem dL_law_908 : decode cL_law 908 = .ok (.iload 5, 2) := by decide +kernel
theorem dL_law_910 : decode cL_law 910 = .ok (.iconst 1, 1) := by decide +kernel
theorem dL_law_911 : decode cL_law 911 = .ok (.iadd, 1) := by decide +kernel
theorem dL_law_912 : decode cL_law 912 = .ok (.iaload, 1) := by decide +kernel
theorem dL_law_913 : decode cL_law 913 = .ok (.invokevirtual 146, 3) := by decide +kernel
theorem dL_law_916 : decode cL_law 916 = .ok (.lstore 7, 2) := by decide +kernel
theorem dL_law_918 : decode cL_law 918 = .ok (.aload_n 2, 1) := by decide +kernel
theorem dL_law_919 : decode cL_law 919 = .ok (.invokevirtual 99, 3) := by decide +kernel
theorem dL_law_922 : decode cL_law 922 = .ok (.iload 6, 2) := by decide +kernel
theorem dL_law_924 : decode cL_law 924 = .ok (.if_icmp .eq 5, 3) := by decide +kernel
theorem dL_law_927 : decode cL_law 927 = .ok (.iconst 0, 1) := by decide +kernel
theorem dL_law_928 : decode cL_law 928 = .ok (.ireturn, 1) := by decide +kernel
theorem dL_law_929 : decode cL_law 929 = .ok (.iload 6, 2) := by decide +kernel
theorem dL_law_931 : decode cL_law 931 = .ok (.ifCond .ne 14, 3) := by decide +kernel
theorem dL_law_934 : decode cL_law 934 = .ok (.aload_n 3, 1) := by decide +kernel
theorem dL_law_935 : decode cL_law 935 = .ok (.iconst 0, 1) := by decide +kernel
theorem dL_law_936 : decode cL_law 936 = .ok (.laload, 1) := by decide +kernel
theorem dL_law_937 : decode cL_law 937 = .ok (.lload 7, 2) := by decide +kernel
theorem dL_law_939 : decode cL_law 939 = .ok (.lcmp, 1) := by decide +kernel
theorem dL_law_940 : decode cL_law 940 = .ok (.ifCond .eq 5, 3) := by decide +kernel
theorem dL_law_943 : decode cL_law 943 = .ok (.iconst 0, 1) := by decide +kernel
theorem dL_law_944 : decode cL_law 944 = .ok (.ireturn, 1) := by decide +kernel
theorem dL_law_945 : decode cL_law 945 = .ok (.goto 664, 3) := by decide +kernel
theorem dL_law_948 : decode cL_law 948 = .ok (.aload_n 1, 1) := by decide +kernel
theorem dL_law_949 : decode cL_law 949 = .ok (.aload_n 0, 1) := by decide +kernel
theorem dL_law_950 : decode cL_law 950 = .ok (.iload 5, 2) := by decide +kernel
theorem dL_law_952 : decode cL_law 952 = .ok (.iconst 1, 1) := by decide +kernel
theorem dL_law_953 : decode cL_law 953 = .ok (.iadd, 1) := by decide +kernel
theorem dL_law_954 : decode cL_law 954 = .ok (.iaload, 1) := by decide +kernel
theorem dL_law_955 : decode cL_law 955 = .ok (.aload_n 3, 1) := by decide +kernel
theorem dL_law_956 : decode cL_law 956 = .ok (.invokestatic 147, 3) := by decide +kernel
theorem dL_law_959 : decode cL_law 959 = .ok (.istore 6, 2) := by decide +kernel
theorem dL_law_961 : decode cL_law 961 = .ok (.aload_n 2, 1) := by decide +kernel
theorem dL_law_962 : decode cL_law 962 = .ok (.aload_n 0, 1) := by decide +kernel
theorem dL_law_963 : decode cL_law 963 = .ok (.iload 5, 2) := by decide +kernel
theorem dL_law_965 : decode cL_law 965 = .ok (.iconst 1, 1) := by decide +kernel
theorem dL_law_966 : decode cL_law 966 = .ok (.iadd, 1) := by decide +kernel
theorem dL_law_967 : decode cL_law 967 = .ok (.iaload, 1) := by decide +kernel
theorem dL_law_968 : decode cL_law 968 = .ok (.invokevirtual 149, 3) := by decide +kernel
theorem dL_law_971 : decode cL_law 971 = .ok (.istore 7, 2) := by decide +kernel
theorem dL_law_973 : decode cL_law 973 = .ok (.aload_n 2, 1) := by decide +kernel
theorem dL_law_974 : decode cL_law 974 = .ok (.invokevirtual 99, 3) := by decide +kernel
theorem dL_law_977 : decode cL_law 977 = .ok (.iload 6, 2) := by decide +kernel
theorem dL_law_979 : decode cL_law 979 = .ok (.if_icmp .eq 5, 3) := by decide +kernel
theorem dL_law_982 : decode cL_law 982 = .ok (.iconst 0, 1) := by decide +kernel
theorem dL_law_983 : decode cL_law 983 = .ok (.ireturn, 1) := by decide +kernel
theorem dL_law_984 : decode cL_law 984 = .ok (.iload 6, 2) := by decide +kernel
theorem dL_law_986 : decode cL_law 986 = .ok (.ifCond .ne 15, 3) := by decide +kernel
theorem dL_law_989 : decode cL_law 989 = .ok (.aload_n 3, 1) := by decide +kernel
theorem dL_law_990 : decode cL_law 990 = .ok (.iconst 0, 1) := by decide +kernel
theorem dL_law_991 : decode cL_law 991 = .ok (.laload, 1) := by decide +kernel
theorem dL_law_992 : decode cL_law 992 = .ok (.iload 7, 2) := by decide +kernel
theorem dL_law_994 : decode cL_law 994 = .ok (.i2l, 1) := by decide +kernel
theorem dL_law_995 : decode cL_law 995 = .ok (.lcmp, 1) := by decide +kernel
theorem dL_law_996 : decode cL_law 996 = .ok (.ifCond .eq 5, 3) := by decide +kernel
theorem dL_law_999 : decode cL_law 999 = .ok (.iconst 0, 1) := by decide +kernel
theorem dL_law_1000 : decode cL_law 1000 = .ok (.ireturn, 1) := by decide +kernel
theorem dL_law_1001 : decode cL_law 1001 = .ok (.goto 608, 3) := by decide +kernel
theorem dL_law_1004 : decode cL_law 1004 = .ok (.aload_n 1, 1) := by decide +kernel
theorem dL_law_1005 : decode cL_law 1005 = .ok (.aload_n 0, 1) := by decide +kernel
theorem dL_law_1006 : decode cL_law 1006 = .ok (.iload 5, 2) := by decide +kernel
theorem dL_law_1008 : decode cL_law 1008 = .ok (.iconst 1, 1) := by decide +kernel
theorem dL_law_1009 : decode cL_law 1009 = .ok (.iadd, 1) := by decide +kernel
theorem dL_law_1010 : decode cL_law 1010 = .ok (.iaload, 1) := by decide +kernel
theorem dL_law_1011 : decode cL_law 1011 = .ok (.aload_n 3, 1) := by decide +kernel
theorem dL_law_1012 : decode cL_law 1012 = .ok (.invokestatic 150, 3) := by decide +kernel
theorem dL_law_1015 : decode cL_law 1015 = .ok (.istore 6, 2) := by decide +kernel
theorem dL_law_1017 : decode cL_law 1017 = .ok (.aload_n 2, 1) := by decide +kernel
theorem dL_law_1018 : decode cL_law 1018 = .ok (.aload_n 0, 1) := by decide +kernel
theorem dL_law_1019 : decode cL_law 1019 = .ok (.iload 5, 2) := by decide +kernel
theorem dL_law_1021 : decode cL_law 1021 = .ok (.iconst 1, 1) := by decide +kernel
theorem dL_law_1022 : decode cL_law 1022 = .ok (.iadd, 1) := by decide +kernel
theorem dL_law_1023 : decode cL_law 1023 = .ok (.iaload, 1) := by decide +kernel
theorem dL_law_1024 : decode cL_law 1024 = .ok (.invokevirtual 152, 3) := by decide +kernel
theorem dL_law_1027 : decode cL_law 1027 = .ok (.istore 7, 2) := by decide +kernel
theorem dL_law_1029 : decode cL_law 1029 = .ok (.aload_n 2, 1) := by decide +kernel
theorem dL_law_1030 : decode cL_law 1030 = .ok (.invokevirtual 99, 3) := by decide +kernel
theorem dL_law_1033 : decode cL_law 1033 = .ok (.iload 6, 2) := by decide +kernel
theorem dL_law_1035 : decode cL_law 1035 = .ok (.if_icmp .eq 5, 3) := by decide +kernel
theorem dL_law_1038 : decode cL_law 1038 = .ok (.iconst 0, 1) := by decide +kernel
theorem dL_law_1039 : decode cL_law 1039 = .ok (.ireturn, 1) := by decide +kernel
theorem dL_law_1040 : decode cL_law 1040 = .ok (.iload 6, 2) := by decide +kernel
theorem dL_law_1042 : decode cL_law 1042 = .ok (.ifCond .ne 15, 3) := by decide +kernel
theorem dL_law_1045 : decode cL_law 1045 = .ok (.aload_n 3, 1) := by decide +kernel
theorem dL_law_1046 : decode cL_law 1046 = .ok (.iconst 0, 1) := by decide +kernel
theorem dL_law_1047 : decode cL_law 1047 = .ok (.laload, 1) := by decide +kernel
theorem dL_law_1048 : decode cL_law 1048 = .ok (.iload 7, 2) := by decide +kernel
theorem dL_law_1050 : decode cL_law 1050 = .ok (.i2l, 1) := by decide +kernel
theorem dL_law_1051 : decode cL_law 1051 = .ok (.lcmp, 1) := by decide +kernel
theorem dL_law_1052 : decode cL_law 1052 = .ok (.ifCond .eq 5, 3) := by decide +kernel
theorem dL_law_1055 : decode cL_law 1055 = .ok (.iconst 0, 1) := by decide +kernel
theorem dL_law_1056 : decode cL_law 1056 = .ok (.ireturn, 1) := by decide +kernel
theorem dL_law_1057 : decode cL_law 1057 = .ok (.goto 552, 3) := by decide +kernel
theorem dL_law_1060 : decode cL_law 1060 = .ok (.aload_n 1, 1) := by decide +kernel
theorem dL_law_1061 : decode cL_law 1061 = .ok (.aload_n 0, 1) := by decide +kernel
theorem dL_law_1062 : decode cL_law 1062 = .ok (.iload 5, 2) := by decide +kernel
theorem dL_law_1064 : decode cL_law 1064 = .ok (.iconst 1, 1) := by decide +kernel
theorem dL_law_1065 : decode cL_law 1065 = .ok (.iadd, 1) := by decide +kernel
theorem dL_law_1066 : decode cL_law 1066 = .ok (.iaload, 1) := by decide +kernel
theorem dL_law_1067 : decode cL_law 1067 = .ok (.aload 4, 2) := by decide +kernel
theorem dL_law_1069 : decode cL_law 1069 = .ok (.invokestatic 153, 3) := by decide +kernel
theorem dL_law_1072 : decode cL_law 1072 = .ok (.istore 6, 2) := by decide +kernel
theorem dL_law_1074 : decode cL_law 1074 = .ok (.aload_n 2, 1) := by decide +kernel
theorem dL_law_1075 : decode cL_law 1075 = .ok (.aload_n 0, 1) := by decide +kernel
theorem dL_law_1076 : decode cL_law 1076 = .ok (.iload 5, 2) := by decide +kernel
theorem dL_law_1078 : decode cL_law 1078 = .ok (.iconst 1, 1) := by decide +kernel
theorem dL_law_1079 : decode cL_law 1079 = .ok (.iadd, 1) := by decide +kernel
theorem dL_law_1080 : decode cL_law 1080 = .ok (.iaload, 1) := by decide +kernel
theorem dL_law_1081 : decode cL_law 1081 = .ok (.invokevirtual 156, 3) := by decide +kernel
theorem dL_law_1084 : decode cL_law 1084 = .ok (.dstore 7, 2) := by decide +kernel
theorem dL_law_1086 : decode cL_law 1086 = .ok (.aload_n 2, 1) := by decide +kernel
theorem dL_law_1087 : decode cL_law 1087 = .ok (.invokevirtual 99, 3) := by decide +kernel
theorem dL_law_1090 : decode cL_law 1090 = .ok (.iload 6, 2) := by decide +kernel
theorem dL_law_1092 : decode cL_law 1092 = .ok (.if_icmp .eq 5, 3) := by decide +kernel
theorem dL_law_1095 : decode cL_law 1095 = .ok (.iconst 0, 1) := by decide +kernel
theorem dL_law_1096 : decode cL_law 1096 = .ok (.ireturn, 1) := by decide +kernel
theorem dL_law_1097 : decode cL_law 1097 = .ok (.iload 6, 2) := by decide +kernel
theorem dL_law_1099 : decode cL_law 1099 = .ok (.ifCond .ne 35, 3) := by decide +kernel
theorem dL_law_1102 : decode cL_law 1102 = .ok (.aload 4, 2) := by decide +kernel
theorem dL_law_1104 : decode cL_law 1104 = .ok (.iconst 0, 1) := by decide +kernel
theorem dL_law_1105 : decode cL_law 1105 = .ok (.daload, 1) := by decide +kernel
theorem dL_law_1106 : decode cL_law 1106 = .ok (.dload 7, 2) := by decide +kernel
theorem dL_law_1108 : decode cL_law 1108 = .ok (.dcmp .l, 1) := by decide +kernel
theorem dL_law_1109 : decode cL_law 1109 = .ok (.ifCond .eq 25, 3) := by decide +kernel
theorem dL_law_1112 : decode cL_law 1112 = .ok (.aload 4, 2) := by decide +kernel
theorem dL_law_1114 : decode cL_law 1114 = .ok (.iconst 0, 1) := by decide +kernel
theorem dL_law_1115 : decode cL_law 1115 = .ok (.daload, 1) := by decide +kernel
theorem dL_law_1116 : decode cL_law 1116 = .ok (.aload 4, 2) := by decide +kernel
theorem dL_law_1118 : decode cL_law 1118 = .ok (.iconst 0, 1) := by decide +kernel
theorem dL_law_1119 : decode cL_law 1119 = .ok (.daload, 1) := by decide +kernel
theorem dL_law_1120 : decode cL_law 1120 = .ok (.dcmp .l, 1) := by decide +kernel
theorem dL_law_1121 : decode cL_law 1121 = .ok (.ifCond .eq 11, 3) := by decide +kernel
theorem dL_law_1124 : decode cL_law 1124 = .ok (.dload 7, 2) := by decide +kernel
theorem dL_law_1126 : decode cL_law 1126 = .ok (.dload 7, 2) := by decide +kernel
theorem dL_law_1128 : decode cL_law 1128 = .ok (.dcmp .l, 1) := by decide +kernel
theorem dL_law_1129 : decode cL_law 1129 = .ok (.ifCond .ne 5, 3) := by decide +kernel
theorem dL_law_1132 : decode cL_law 1132 = .ok (.iconst 0, 1) := by decide +kernel
theorem dL_law_1133 : decode cL_law 1133 = .ok (.ireturn, 1) := by decide +kernel
theorem dL_law_1134 : decode cL_law 1134 = .ok (.goto 475, 3) := by decide +kernel
theorem dL_law_1137 : decode cL_law 1137 = .ok (.aload_n 1, 1) := by decide +kernel
theorem dL_law_1138 : decode cL_law 1138 = .ok (.aload_n 0, 1) := by decide +kernel
theorem dL_law_1139 : decode cL_law 1139 = .ok (.iload 5, 2) := by decide +kernel
theorem dL_law_1141 : decode cL_law 1141 = .ok (.iconst 1, 1) := by decide +kernel
theorem dL_law_1142 : decode cL_law 1142 = .ok (.iadd, 1) := by decide +kernel
theorem dL_law_1143 : decode cL_law 1143 = .ok (.iaload, 1) := by decide +kernel
theorem dL_law_1144 : decode cL_law 1144 = .ok (.aload_n 3, 1) := by decide +kernel
theorem dL_law_1145 : decode cL_law 1145 = .ok (.invokestatic 157, 3) := by decide +kernel
theorem dL_law_1148 : decode cL_law 1148 = .ok (.istore 6, 2) := by decide +kernel
theorem dL_law_1150 : decode cL_law 1150 = .ok (.aload_n 2, 1) := by decide +kernel
theorem dL_law_1151 : decode cL_law 1151 = .ok (.aload_n 0, 1) := by decide +kernel
theorem dL_law_1152 : decode cL_law 1152 = .ok (.iload 5, 2) := by decide +kernel
theorem dL_law_1154 : decode cL_law 1154 = .ok (.iconst 1, 1) := by decide +kernel
theorem dL_law_1155 : decode cL_law 1155 = .ok (.iadd, 1) := by decide +kernel
theorem dL_law_1156 : decode cL_law 1156 = .ok (.iaload, 1) := by decide +kernel
theorem dL_law_1157 : decode cL_law 1157 = .ok (.invokevirtual 159, 3) := by decide +kernel
theorem dL_law_1160 : decode cL_law 1160 = .ok (.istore 7, 2) := by decide +kernel
theorem dL_law_1162 : decode cL_law 1162 = .ok (.aload_n 2, 1) := by decide +kernel
theorem dL_law_1163 : decode cL_law 1163 = .ok (.invokevirtual 99, 3) := by decide +kernel
theorem dL_law_1166 : decode cL_law 1166 = .ok (.iload 6, 2) := by decide +kernel
theorem dL_law_1168 : decode cL_law 1168 = .ok (.if_icmp .eq 5, 3) := by decide +kernel
theorem dL_law_1171 : decode cL_law 1171 = .ok (.iconst 0, 1) := by decide +kernel
theorem dL_law_1172 : decode cL_law 1172 = .ok (.ireturn, 1) := by decide +kernel
theorem dL_law_1173 : decode cL_law 1173 = .ok (.iload 6, 2) := by decide +kernel
theorem dL_law_1175 : decode cL_law 1175 = .ok (.ifCond .ne 15, 3) := by decide +kernel
theorem dL_law_1178 : decode cL_law 1178 = .ok (.aload_n 3, 1) := by decide +kernel
theorem dL_law_1179 : decode cL_law 1179 = .ok (.iconst 0, 1) := by decide +kernel
theorem dL_law_1180 : decode cL_law 1180 = .ok (.laload, 1) := by decide +kernel
theorem dL_law_1181 : decode cL_law 1181 = .ok (.iload 7, 2) := by decide +kernel
theorem dL_law_1183 : decode cL_law 1183 = .ok (.i2l, 1) := by decide +kernel
theorem dL_law_1184 : decode cL_law 1184 = .ok (.lcmp, 1) := by decide +kernel
theorem dL_law_1185 : decode cL_law 1185 = .ok (.ifCond .eq 5, 3) := by decide +kernel
theorem dL_law_1188 : decode cL_law 1188 = .ok (.iconst 0, 1) := by decide +kernel
theorem dL_law_1189 : decode cL_law 1189 = .ok (.ireturn, 1) := by decide +kernel
theorem dL_law_1190 : decode cL_law 1190 = .ok (.goto 419, 3) := by decide +kernel
theorem dL_law_1193 : decode cL_law 1193 = .ok (.aload_n 1, 1) := by decide +kernel
theorem dL_law_1194 : decode cL_law 1194 = .ok (.aload_n 0, 1) := by decide +kernel
theorem dL_law_1195 : decode cL_law 1195 = .ok (.iload 5, 2) := by decide +kernel
theorem dL_law_1197 : decode cL_law 1197 = .ok (.iconst 1, 1) := by decide +kernel
theorem dL_law_1198 : decode cL_law 1198 = .ok (.iadd, 1) := by decide +kernel
theorem dL_law_1199 : decode cL_law 1199 = .ok (.iaload, 1) := by decide +kernel
theorem dL_law_1200 : decode cL_law 1200 = .ok (.aload_n 3, 1) := by decide +kernel
theorem dL_law_1201 : decode cL_law 1201 = .ok (.invokestatic 160, 3) := by decide +kernel
theorem dL_law_1204 : decode cL_law 1204 = .ok (.istore 6, 2) := by decide +kernel
theorem dL_law_1206 : decode cL_law 1206 = .ok (.aload_n 2, 1) := by decide +kernel
theorem dL_law_1207 : decode cL_law 1207 = .ok (.aload_n 0, 1) := by decide +kernel
theorem dL_law_1208 : decode cL_law 1208 = .ok (.iload 5, 2) := by decide +kernel
theorem dL_law_1210 : decode cL_law 1210 = .ok (.iconst 1, 1) := by decide +kernel
theorem dL_law_1211 : decode cL_law 1211 = .ok (.iadd, 1) := by decide +kernel
theorem dL_law_1212 : decode cL_law 1212 = .ok (.iaload, 1) := by decide +kernel
theorem dL_law_1213 : decode cL_law 1213 = .ok (.invokevirtual 162, 3) := by decide +kernel
theorem dL_law_1216 : decode cL_law 1216 = .ok (.istore 7, 2) := by decide +kernel
theorem dL_law_1218 : decode cL_law 1218 = .ok (.aload_n 2, 1) := by decide +kernel
theorem dL_law_1219 : decode cL_law 1219 = .ok (.invokevirtual 99, 3) := by decide +kernel
theorem dL_law_1222 : decode cL_law 1222 = .ok (.iload 6, 2) := by decide +kernel
theorem dL_law_1224 : decode cL_law 1224 = .ok (.if_icmp .eq 5, 3) := by decide +kernel
theorem dL_law_1227 : decode cL_law 1227 = .ok (.iconst 0, 1) := by decide +kernel
theorem dL_law_1228 : decode cL_law 1228 = .ok (.ireturn, 1) := by decide +kernel
theorem dL_law_1229 : decode cL_law 1229 = .ok (.iload 6, 2) := by decide +kernel
theorem dL_law_1231 : decode cL_law 1231 = .ok (.ifCond .ne 15, 3) := by decide +kernel
theorem dL_law_1234 : decode cL_law 1234 = .ok (.aload_n 3, 1) := by decide +kernel
theorem dL_law_1235 : decode cL_law 1235 = .ok (.iconst 0, 1) := by decide +kernel
theorem dL_law_1236 : decode cL_law 1236 = .ok (.laload, 1) := by decide +kernel
theorem dL_law_1237 : decode cL_law 1237 = .ok (.iload 7, 2) := by decide +kernel
theorem dL_law_1239 : decode cL_law 1239 = .ok (.i2l, 1) := by decide +kernel
theorem dL_law_1240 : decode cL_law 1240 = .ok (.lcmp, 1) := by decide +kernel
theorem dL_law_1241 : decode cL_law 1241 = .ok (.ifCond .eq 5, 3) := by decide +kernel
theorem dL_law_1244 : decode cL_law 1244 = .ok (.iconst 0, 1) := by decide +kernel
theorem dL_law_1245 : decode cL_law 1245 = .ok (.ireturn, 1) := by decide +kernel
theorem dL_law_1246 : decode cL_law 1246 = .ok (.goto 363, 3) := by decide +kernel
theorem dL_law_1249 : decode cL_law 1249 = .ok (.aload_n 1, 1) := by decide +kernel
theorem dL_law_1250 : decode cL_law 1250 = .ok (.aload_n 0, 1) := by decide +kernel
theorem dL_law_1251 : decode cL_law 1251 = .ok (.iload 5, 2) := by decide +kernel
theorem dL_law_1253 : decode cL_law 1253 = .ok (.iconst 1, 1) := by decide +kernel
theorem dL_law_1254 : decode cL_law 1254 = .ok (.iadd, 1) := by decide +kernel
theorem dL_law_1255 : decode cL_law 1255 = .ok (.iaload, 1) := by decide +kernel
theorem dL_law_1256 : decode cL_law 1256 = .ok (.aload_n 3, 1) := by decide +kernel
theorem dL_law_1257 : decode cL_law 1257 = .ok (.invokestatic 163, 3) := by decide +kernel
theorem dL_law_1260 : decode cL_law 1260 = .ok (.istore 6, 2) := by decide +kernel
theorem dL_law_1262 : decode cL_law 1262 = .ok (.aload_n 2, 1) := by decide +kernel
theorem dL_law_1263 : decode cL_law 1263 = .ok (.aload_n 0, 1) := by decide +kernel
theorem dL_law_1264 : decode cL_law 1264 = .ok (.iload 5, 2) := by decide +kernel
theorem dL_law_1266 : decode cL_law 1266 = .ok (.iconst 1, 1) := by decide +kernel
theorem dL_law_1267 : decode cL_law 1267 = .ok (.iadd, 1) := by decide +kernel
theorem dL_law_1268 : decode cL_law 1268 = .ok (.iaload, 1) := by decide +kernel
theorem dL_law_1269 : decode cL_law 1269 = .ok (.invokevirtual 165, 3) := by decide +kernel
theorem dL_law_1272 : decode cL_law 1272 = .ok (.istore 7, 2) := by decide +kernel
theorem dL_law_1274 : decode cL_law 1274 = .ok (.aload_n 2, 1) := by decide +kernel
theorem dL_law_1275 : decode cL_law 1275 = .ok (.invokevirtual 99, 3) := by decide +kernel
theorem dL_law_1278 : decode cL_law 1278 = .ok (.iload 6, 2) := by decide +kernel
theorem dL_law_1280 : decode cL_law 1280 = .ok (.if_icmp .eq 5, 3) := by decide +kernel
theorem dL_law_1283 : decode cL_law 1283 = .ok (.iconst 0, 1) := by decide +kernel
theorem dL_law_1284 : decode cL_law 1284 = .ok (.ireturn, 1) := by decide +kernel
theorem dL_law_1285 : decode cL_law 1285 = .ok (.iload 6, 2) := by decide +kernel
theorem dL_law_1287 : decode cL_law 1287 = .ok (.ifCond .ne 15, 3) := by decide +kernel
theorem dL_law_1290 : decode cL_law 1290 = .ok (.aload_n 3, 1) := by decide +kernel
theorem dL_law_1291 : decode cL_law 1291 = .ok (.iconst 0, 1) := by decide +kernel
theorem dL_law_1292 : decode cL_law 1292 = .ok (.laload, 1) := by decide +kernel
theorem dL_law_1293 : decode cL_law 1293 = .ok (.iload 7, 2) := by decide +kernel
theorem dL_law_1295 : decode cL_law 1295 = .ok (.i2l, 1) := by decide +kernel
theorem dL_law_1296 : decode cL_law 1296 = .ok (.lcmp, 1) := by decide +kernel
theorem dL_law_1297 : decode cL_law 1297 = .ok (.ifCond .eq 5, 3) := by decide +kernel
theorem dL_law_1300 : decode cL_law 1300 = .ok (.iconst 0, 1) := by decide +kernel
theorem dL_law_1301 : decode cL_law 1301 = .ok (.ireturn, 1) := by decide +kernel
theorem dL_law_1302 : decode cL_law 1302 = .ok (.goto 307, 3) := by decide +kernel
theorem dL_law_1305 : decode cL_law 1305 = .ok (.aload_n 1, 1) := by decide +kernel
theorem dL_law_1306 : decode cL_law 1306 = .ok (.aload_n 0, 1) := by decide +kernel
theorem dL_law_1307 : decode cL_law 1307 = .ok (.iload 5, 2) := by decide +kernel
theorem dL_law_1309 : decode cL_law 1309 = .ok (.iconst 1, 1) := by decide +kernel
theorem dL_law_1310 : decode cL_law 1310 = .ok (.iadd, 1) := by decide +kernel
theorem dL_law_1311 : decode cL_law 1311 = .ok (.iaload, 1) := by decide +kernel
theorem dL_law_1312 : decode cL_law 1312 = .ok (.aload_n 3, 1) := by decide +kernel
theorem dL_law_1313 : decode cL_law 1313 = .ok (.invokestatic 166, 3) := by decide +kernel
theorem dL_law_1316 : decode cL_law 1316 = .ok (.istore 6, 2) := by decide +kernel
theorem dL_law_1318 : decode cL_law 1318 = .ok (.aload_n 2, 1) := by decide +kernel
theorem dL_law_1319 : decode cL_law 1319 = .ok (.aload_n 0, 1) := by decide +kernel
theorem dL_law_1320 : decode cL_law 1320 = .ok (.iload 5, 2) := by decide +kernel
theorem dL_law_1322 : decode cL_law 1322 = .ok (.iconst 1, 1) := by decide +kernel
theorem dL_law_1323 : decode cL_law 1323 = .ok (.iadd, 1) := by decide +kernel
theorem dL_law_1324 : decode cL_law 1324 = .ok (.iaload, 1) := by decide +kernel
theorem dL_law_1325 : decode cL_law 1325 = .ok (.invokevirtual 168, 3) := by decide +kernel
theorem dL_law_1328 : decode cL_law 1328 = .ok (.istore 7, 2) := by decide +kernel
theorem dL_law_1330 : decode cL_law 1330 = .ok (.aload_n 2, 1) := by decide +kernel
theorem dL_law_1331 : decode cL_law 1331 = .ok (.invokevirtual 99, 3) := by decide +kernel
theorem dL_law_1334 : decode cL_law 1334 = .ok (.iload 6, 2) := by decide +kernel
theorem dL_law_1336 : decode cL_law 1336 = .ok (.if_icmp .eq 5, 3) := by decide +kernel
theorem dL_law_1339 : decode cL_law 1339 = .ok (.iconst 0, 1) := by decide +kernel
theorem dL_law_1340 : decode cL_law 1340 = .ok (.ireturn, 1) := by decide +kernel
theorem dL_law_1341 : decode cL_law 1341 = .ok (.iload 6, 2) := by decide +kernel
theorem dL_law_1343 : decode cL_law 1343 = .ok (.ifCond .ne 15, 3) := by decide +kernel
theorem dL_law_1346 : decode cL_law 1346 = .ok (.aload_n 3, 1) := by decide +kernel
theorem dL_law_1347 : decode cL_law 1347 = .ok (.iconst 0, 1) := by decide +kernel
theorem dL_law_1348 : decode cL_law 1348 = .ok (.laload, 1) := by decide +kernel
theorem dL_law_1349 : decode cL_law 1349 = .ok (.iload 7, 2) := by decide +kernel
theorem dL_law_1351 : decode cL_law 1351 = .ok (.i2l, 1) := by decide +kernel
theorem dL_law_1352 : decode cL_law 1352 = .ok (.lcmp, 1) := by decide +kernel
theorem dL_law_1353 : decode cL_law 1353 = .ok (.ifCond .eq 5, 3) := by decide +kernel
theorem dL_law_1356 : decode cL_law 1356 = .ok (.iconst 0, 1) := by decide +kernel
theorem dL_law_1357 : decode cL_law 1357 = .ok (.ireturn, 1) := by decide +kernel
theorem dL_law_1358 : decode cL_law 1358 = .ok (.goto 251, 3) := by decide +kernel
theorem dL_law_1361 : decode cL_law 1361 = .ok (.aload_n 1, 1) := by decide +kernel
theorem dL_law_1362 : decode cL_law 1362 = .ok (.aload_n 0, 1) := by decide +kernel
theorem dL_law_1363 : decode cL_law 1363 = .ok (.iload 5, 2) := by decide +kernel
theorem dL_law_1365 : decode cL_law 1365 = .ok (.iconst 1, 1) := by decide +kernel
theorem dL_law_1366 : decode cL_law 1366 = .ok (.iadd, 1) := by decide +kernel
theorem dL_law_1367 : decode cL_law 1367 = .ok (.iaload, 1) := by decide +kernel
theorem dL_law_1368 : decode cL_law 1368 = .ok (.aload_n 0, 1) := by decide +kernel
theorem dL_law_1369 : decode cL_law 1369 = .ok (.iload 5, 2) := by decide +kernel
theorem dL_law_1371 : decode cL_law 1371 = .ok (.iconst 2, 1) := by decide +kernel
theorem dL_law_1372 : decode cL_law 1372 = .ok (.iadd, 1) := by decide +kernel
theorem dL_law_1373 : decode cL_law 1373 = .ok (.iaload, 1) := by decide +kernel
theorem dL_law_1374 : decode cL_law 1374 = .ok (.aload_n 3, 1) := by decide +kernel
theorem dL_law_1375 : decode cL_law 1375 = .ok (.invokestatic 169, 3) := by decide +kernel
theorem dL_law_1378 : decode cL_law 1378 = .ok (.istore 6, 2) := by decide +kernel
theorem dL_law_1380 : decode cL_law 1380 = .ok (.aload_n 2, 1) := by decide +kernel
theorem dL_law_1381 : decode cL_law 1381 = .ok (.aload_n 0, 1) := by decide +kernel
theorem dL_law_1382 : decode cL_law 1382 = .ok (.iload 5, 2) := by decide +kernel
theorem dL_law_1384 : decode cL_law 1384 = .ok (.iconst 1, 1) := by decide +kernel
theorem dL_law_1385 : decode cL_law 1385 = .ok (.iadd, 1) := by decide +kernel
theorem dL_law_1386 : decode cL_law 1386 = .ok (.iaload, 1) := by decide +kernel
theorem dL_law_1387 : decode cL_law 1387 = .ok (.aload_n 0, 1) := by decide +kernel
theorem dL_law_1388 : decode cL_law 1388 = .ok (.iload 5, 2) := by decide +kernel
theorem dL_law_1390 : decode cL_law 1390 = .ok (.iconst 2, 1) := by decide +kernel
theorem dL_law_1391 : decode cL_law 1391 = .ok (.iadd, 1) := by decide +kernel
theorem dL_law_1392 : decode cL_law 1392 = .ok (.iaload, 1) := by decide +kernel
theorem dL_law_1393 : decode cL_law 1393 = .ok (.invokevirtual 171, 3) := by decide +kernel
theorem dL_law_1396 : decode cL_law 1396 = .ok (.istore 7, 2) := by decide +kernel
theorem dL_law_1398 : decode cL_law 1398 = .ok (.aload_n 2, 1) := by decide +kernel
theorem dL_law_1399 : decode cL_law 1399 = .ok (.invokevirtual 99, 3) := by decide +kernel
theorem dL_law_1402 : decode cL_law 1402 = .ok (.iload 6, 2) := by decide +kernel
theorem dL_law_1404 : decode cL_law 1404 = .ok (.if_icmp .eq 5, 3) := by decide +kernel
theorem dL_law_1407 : decode cL_law 1407 = .ok (.iconst 0, 1) := by decide +kernel
theorem dL_law_1408 : decode cL_law 1408 = .ok (.ireturn, 1) := by decide +kernel
theorem dL_law_1409 : decode cL_law 1409 = .ok (.iload 6, 2) := by decide +kernel
theorem dL_law_1411 : decode cL_law 1411 = .ok (.ifCond .ne 15, 3) := by decide +kernel
theorem dL_law_1414 : decode cL_law 1414 = .ok (.aload_n 3, 1) := by decide +kernel
theorem dL_law_1415 : decode cL_law 1415 = .ok (.iconst 0, 1) := by decide +kernel
theorem dL_law_1416 : decode cL_law 1416 = .ok (.laload, 1) := by decide +kernel
theorem dL_law_1417 : decode cL_law 1417 = .ok (.iload 7, 2) := by decide +kernel
theorem dL_law_1419 : decode cL_law 1419 = .ok (.i2l, 1) := by decide +kernel
theorem dL_law_1420 : decode cL_law 1420 = .ok (.lcmp, 1) := by decide +kernel
theorem dL_law_1421 : decode cL_law 1421 = .ok (.ifCond .eq 5, 3) := by decide +kernel
theorem dL_law_1424 : decode cL_law 1424 = .ok (.iconst 0, 1) := by decide +kernel
theorem dL_law_1425 : decode cL_law 1425 = .ok (.ireturn, 1) := by decide +kernel
theorem dL_law_1426 : decode cL_law 1426 = .ok (.goto 183, 3) := by decide +kernel
theorem dL_law_1429 : decode cL_law 1429 = .ok (.aload_n 1, 1) := by decide +kernel
theorem dL_law_1430 : decode cL_law 1430 = .ok (.aload_n 0, 1) := by decide +kernel
theorem dL_law_1431 : decode cL_law 1431 = .ok (.iload 5, 2) := by decide +kernel
theorem dL_law_1433 : decode cL_law 1433 = .ok (.iconst 1, 1) := by decide +kernel
theorem dL_law_1434 : decode cL_law 1434 = .ok (.iadd, 1) := by decide +kernel
theorem dL_law_1435 : decode cL_law 1435 = .ok (.iaload, 1) := by decide +kernel
theorem dL_law_1436 : decode cL_law 1436 = .ok (.aload_n 3, 1) := by decide +kernel
theorem dL_law_1437 : decode cL_law 1437 = .ok (.invokestatic 172, 3) := by decide +kernel
theorem dL_law_1440 : decode cL_law 1440 = .ok (.istore 6, 2) := by decide +kernel
theorem dL_law_1442 : decode cL_law 1442 = .ok (.aload_n 2, 1) := by decide +kernel
theorem dL_law_1443 : decode cL_law 1443 = .ok (.aload_n 0, 1) := by decide +kernel
theorem dL_law_1444 : decode cL_law 1444 = .ok (.iload 5, 2) := by decide +kernel
theorem dL_law_1446 : decode cL_law 1446 = .ok (.iconst 1, 1) := by decide +kernel
theorem dL_law_1447 : decode cL_law 1447 = .ok (.iadd, 1) := by decide +kernel
theorem dL_law_1448 : decode cL_law 1448 = .ok (.iaload, 1) := by decide +kernel
theorem dL_law_1449 : decode cL_law 1449 = .ok (.invokevirtual 174, 3) := by decide +kernel
theorem dL_law_1452 : decode cL_law 1452 = .ok (.lstore 7, 2) := by decide +kernel
theorem dL_law_1454 : decode cL_law 1454 = .ok (.aload_n 2, 1) := by decide +kernel
theorem dL_law_1455 : decode cL_law 1455 = .ok (.invokevirtual 99, 3) := by decide +kernel
theorem dL_law_1458 : decode cL_law 1458 = .ok (.iload 6, 2) := by decide +kernel
theorem dL_law_1460 : decode cL_law 1460 = .ok (.if_icmp .eq 5, 3) := by decide +kernel
theorem dL_law_1463 : decode cL_law 1463 = .ok (.iconst 0, 1) := by decide +kernel
theorem dL_law_1464 : decode cL_law 1464 = .ok (.ireturn, 1) := by decide +kernel
theorem dL_law_1465 : decode cL_law 1465 = .ok (.iload 6, 2) := by decide +kernel
theorem dL_law_1467 : decode cL_law 1467 = .ok (.ifCond .ne 14, 3) := by decide +kernel
theorem dL_law_1470 : decode cL_law 1470 = .ok (.aload_n 3, 1) := by decide +kernel
theorem dL_law_1471 : decode cL_law 1471 = .ok (.iconst 0, 1) := by decide +kernel
theorem dL_law_1472 : decode cL_law 1472 = .ok (.laload, 1) := by decide +kernel
theorem dL_law_1473 : decode cL_law 1473 = .ok (.lload 7, 2) := by decide +kernel
theorem dL_law_1475 : decode cL_law 1475 = .ok (.lcmp, 1) := by decide +kernel
theorem dL_law_1476 : decode cL_law 1476 = .ok (.ifCond .eq 5, 3) := by decide +kernel
theorem dL_law_1479 : decode cL_law 1479 = .ok (.iconst 0, 1) := by decide +kernel
theorem dL_law_1480 : decode cL_law 1480 = .ok (.ireturn, 1) := by decide +kernel
theorem dL_law_1481 : decode cL_law 1481 = .ok (.goto 128, 3) := by decide +kernel
theorem dL_law_1484 : decode cL_law 1484 = .ok (.aload_n 1, 1) := by decide +kernel
theorem dL_law_1485 : decode cL_law 1485 = .ok (.aload_n 0, 1) := by decide +kernel
theorem dL_law_1486 : decode cL_law 1486 = .ok (.iload 5, 2) := by decide +kernel
theorem dL_law_1488 : decode cL_law 1488 = .ok (.iconst 1, 1) := by decide +kernel
theorem dL_law_1489 : decode cL_law 1489 = .ok (.iadd, 1) := by decide +kernel
theorem dL_law_1490 : decode cL_law 1490 = .ok (.iaload, 1) := by decide +kernel
theorem dL_law_1491 : decode cL_law 1491 = .ok (.aload_n 3, 1) := by decide +kernel
theorem dL_law_1492 : decode cL_law 1492 = .ok (.invokestatic 175, 3) := by decide +kernel
theorem dL_law_1495 : decode cL_law 1495 = .ok (.istore 6, 2) := by decide +kernel
theorem dL_law_1497 : decode cL_law 1497 = .ok (.aload_n 2, 1) := by decide +kernel
theorem dL_law_1498 : decode cL_law 1498 = .ok (.aload_n 0, 1) := by decide +kernel
theorem dL_law_1499 : decode cL_law 1499 = .ok (.iload 5, 2) := by decide +kernel
theorem dL_law_1501 : decode cL_law 1501 = .ok (.iconst 1, 1) := by decide +kernel
theorem dL_law_1502 : decode cL_law 1502 = .ok (.iadd, 1) := by decide +kernel
theorem dL_law_1503 : decode cL_law 1503 = .ok (.iaload, 1) := by decide +kernel
theorem dL_law_1504 : decode cL_law 1504 = .ok (.invokevirtual 177, 3) := by decide +kernel
theorem dL_law_1507 : decode cL_law 1507 = .ok (.istore 7, 2) := by decide +kernel
theorem dL_law_1509 : decode cL_law 1509 = .ok (.aload_n 2, 1) := by decide +kernel
theorem dL_law_1510 : decode cL_law 1510 = .ok (.invokevirtual 99, 3) := by decide +kernel
theorem dL_law_1513 : decode cL_law 1513 = .ok (.iload 6, 2) := by decide +kernel
theorem dL_law_1515 : decode cL_law 1515 = .ok (.if_icmp .eq 5, 3) := by decide +kernel
theorem dL_law_1518 : decode cL_law 1518 = .ok (.iconst 0, 1) := by decide +kernel
theorem dL_law_1519 : decode cL_law 1519 = .ok (.ireturn, 1) := by decide +kernel
theorem dL_law_1520 : decode cL_law 1520 = .ok (.iload 6, 2) := by decide +kernel
theorem dL_law_1522 : decode cL_law 1522 = .ok (.ifCond .ne 15, 3) := by decide +kernel
theorem dL_law_1525 : decode cL_law 1525 = .ok (.aload_n 3, 1) := by decide +kernel
theorem dL_law_1526 : decode cL_law 1526 = .ok (.iconst 0, 1) := by decide +kernel
theorem dL_law_1527 : decode cL_law 1527 = .ok (.laload, 1) := by decide +kernel
theorem dL_law_1528 : decode cL_law 1528 = .ok (.iload 7, 2) := by decide +kernel
theorem dL_law_1530 : decode cL_law 1530 = .ok (.i2l, 1) := by decide +kernel
theorem dL_law_1531 : decode cL_law 1531 = .ok (.lcmp, 1) := by decide +kernel
theorem dL_law_1532 : decode cL_law 1532 = .ok (.ifCond .eq 5, 3) := by decide +kernel
theorem dL_law_1535 : decode cL_law 1535 = .ok (.iconst 0, 1) := by decide +kernel
theorem dL_law_1536 : decode cL_law 1536 = .ok (.ireturn, 1) := by decide +kernel
theorem dL_law_1537 : decode cL_law 1537 = .ok (.goto 72, 3) := by decide +kernel
theorem dL_law_1540 : decode cL_law 1540 = .ok (.aload_n 1, 1) := by decide +kernel
theorem dL_law_1541 : decode cL_law 1541 = .ok (.aload_n 0, 1) := by decide +kernel
theorem dL_law_1542 : decode cL_law 1542 = .ok (.iload 5, 2) := by decide +kernel
theorem dL_law_1544 : decode cL_law 1544 = .ok (.iconst 1, 1) := by decide +kernel
theorem dL_law_1545 : decode cL_law 1545 = .ok (.iadd, 1) := by decide +kernel
theorem dL_law_1546 : decode cL_law 1546 = .ok (.iaload, 1) := by decide +kernel
theorem dL_law_1547 : decode cL_law 1547 = .ok (.aload_n 3, 1) := by decide +kernel
theorem dL_law_1548 : decode cL_law 1548 = .ok (.invokestatic 178, 3) := by decide +kernel
theorem dL_law_1551 : decode cL_law 1551 = .ok (.istore 6, 2) := by decide +kernel
theorem dL_law_1553 : decode cL_law 1553 = .ok (.aload_n 2, 1) := by decide +kernel
theorem dL_law_1554 : decode cL_law 1554 = .ok (.aload_n 0, 1) := by decide +kernel
theorem dL_law_1555 : decode cL_law 1555 = .ok (.iload 5, 2) := by decide +kernel
theorem dL_law_1557 : decode cL_law 1557 = .ok (.iconst 1, 1) := by decide +kernel
theorem dL_law_1558 : decode cL_law 1558 = .ok (.iadd, 1) := by decide +kernel
theorem dL_law_1559 : decode cL_law 1559 = .ok (.iaload, 1) := by decide +kernel
theorem dL_law_1560 : decode cL_law 1560 = .ok (.invokevirtual 180, 3) := by decide +kernel
theorem dL_law_1563 : decode cL_law 1563 = .ok (.istore 7, 2) := by decide +kernel
theorem dL_law_1565 : decode cL_law 1565 = .ok (.aload_n 2, 1) := by decide +kernel
theorem dL_law_1566 : decode cL_law 1566 = .ok (.invokevirtual 99, 3) := by decide +kernel
theorem dL_law_1569 : decode cL_law 1569 = .ok (.iload 6, 2) := by decide +kernel
theorem dL_law_1571 : decode cL_law 1571 = .ok (.if_icmp .eq 5, 3) := by decide +kernel
theorem dL_law_1574 : decode cL_law 1574 = .ok (.iconst 0, 1) := by decide +kernel
theorem dL_law_1575 : decode cL_law 1575 = .ok (.ireturn, 1) := by decide +kernel
theorem dL_law_1576 : decode cL_law 1576 = .ok (.iload 6, 2) := by decide +kernel
theorem dL_law_1578 : decode cL_law 1578 = .ok (.ifCond .ne 15, 3) := by decide +kernel
theorem dL_law_1581 : decode cL_law 1581 = .ok (.aload_n 3, 1) := by decide +kernel
theorem dL_law_1582 : decode cL_law 1582 = .ok (.iconst 0, 1) := by decide +kernel
theorem dL_law_1583 : decode cL_law 1583 = .ok (.laload, 1) := by decide +kernel
theorem dL_law_1584 : decode cL_law 1584 = .ok (.iload 7, 2) := by decide +kernel
theorem dL_law_1586 : decode cL_law 1586 = .ok (.i2l, 1) := by decide +kernel
theorem dL_law_1587 : decode cL_law 1587 = .ok (.lcmp, 1) := by decide +kernel
theorem dL_law_1588 : decode cL_law 1588 = .ok (.ifCond .eq 5, 3) := by decide +kernel
theorem dL_law_1591 : decode cL_law 1591 = .ok (.iconst 0, 1) := by decide +kernel
theorem dL_law_1592 : decode cL_law 1592 = .ok (.ireturn, 1) := by decide +kernel
theorem dL_law_1593 : decode cL_law 1593 = .ok (.goto 16, 3) := by decide +kernel
theorem dL_law_1596 : decode cL_law 1596 = .ok (.aload_n 1, 1) := by decide +kernel
theorem dL_law_1597 : decode cL_law 1597 = .ok (.invokevirtual 181, 3) := by decide +kernel
theorem dL_law_1600 : decode cL_law 1600 = .ok (.aload_n 2, 1) := by decide +kernel
theorem dL_law_1601 : decode cL_law 1601 = .ok (.invokevirtual 184, 3) := by decide +kernel
theorem dL_law_1604 : decode cL_law 1604 = .ok (.if_icmp .eq 5, 3) := by decide +kernel
theorem dL_law_1607 : decode cL_law 1607 = .ok (.iconst 0, 1) := by decide +kernel
theorem dL_law_1608 : decode cL_law 1608 = .ok (.ireturn, 1) := by decide +kernel
theorem dL_law_1609 : decode cL_law 1609 = .ok (.iinc 5 4, 3) := by decide +kernel
theorem dL_law_1612 : decode cL_law 1612 = .ok (.goto (-1584), 3) := by decide +kernel
theorem dL_law_1615 : decode cL_law 1615 = .ok (.iconst 1, 1) := by decide +kernel
theorem dL_law_1616 : decode cL_law 1616 = .ok (.ireturn, 1) := by decide +kernel
theorem dJ9_max_f86c9_0 : decode cJ9_max_f86c9 0 = .ok (.lload_n 0, 1) := by decide +kernel
theorem dJ9_max_f86c9_1 : decode cJ9_max_f86c9 1 = .ok (.lload_n 2, 1) := by decide +kernel
theorem dJ9_max_f86c9_2 : decode cJ9_max_f86c9 2 = .ok (.lcmp, 1) := by decide +kernel
theorem dJ9_max_f86c9_3 : decode cJ9_max_f86c9 3 = .ok (.ifCond .lt 7, 3) := by decide +kernel
theorem dJ9_max_f86c9_6 : decode cJ9_max_f86c9 6 = .ok (.lload_n 0, 1) := by decide +kernel
theorem dJ9_max_f86c9_7 : decode cJ9_max_f86c9 7 = .ok (.goto 4, 3) := by decide +kernel
theorem dJ9_max_f86c9_10 : decode cJ9_max_f86c9 10 = .ok (.lload_n 2, 1) := by decide +kernel
theorem dJ9_max_f86c9_11 : decode cJ9_max_f86c9 11 = .ok (.lreturn, 1) := by decide +kernel
end
section
/-- the tables' words that no step takes away -/
def lw_all : List Cond := lw_tbl.filter goodWord
theorem lw_mem {i : Nat} {w : Cond} (h : lw_tbl[i]? = some w) (g : goodWord w = true) : w ∈ lw_all := List.mem_filter.mpr ⟨List.mem_of_getElem? h, g⟩
theorem lw_all_tbl {w : Cond} (h : w ∈ lw_all) : w ∈ lw_tbl := (List.mem_filter.mp h).1
abbrev ws_ (y : MethodName) (c : ByteArray) (n : Nat) (r : Option FieldType) : List Cond := .code y c n r :: lw_all
theorem lw_gd {w : Cond} (h : w ∈ lw_all) : w ∈ lw_all ∧ ((w.onTables && w.keeps) = true ∨ ∃ ty, w = .arrayClass ty) := ⟨h, good_of_word (List.mem_filter.mp h).2⟩
theorem gw_ws {y : MethodName} {c : ByteArray} {n : Nat} {r : Option FieldType} (h5 : Cond.code y c n r ∈ lw_all) : GoodIn lw_all (ws_ y c n r) := fun w h => (List.mem_cons.mp h).elim (fun e => by rw [e]; exact lw_gd h5) lw_gd
theorem gw_V {own C : String} {idx : Nat} {y : MethodName} {c : ByteArray} {n : Nat} {r : Option FieldType} (h1 : Cond.methodLink own idx y ∈ lw_all) (h2 : Cond.instanceMethod y ∈ lw_all) (h3 : Cond.selects C y y ∈ lw_all) (h4 : Cond.initialized C ∈ lw_all) (h5 : Cond.code y c n r ∈ lw_all) : GoodIn lw_all (wsV own idx C y (ws_ y c n r)) := by
  intro w h
  rcases List.mem_append.mp h with h | h
  · rcases List.mem_cons.mp h with e | h
    · rw [e]; exact lw_gd h1
    · rcases List.mem_cons.mp h with e | h
      · rw [e]; exact lw_gd h2
      · rcases List.mem_cons.mp h with e | h
        · rw [e]; exact lw_gd h3
        · rcases List.mem_cons.mp h with e | h
          · rw [e]; exact lw_gd h4
          · cases h
  · exact gw_ws h5 w h
theorem gw_S {own : String} {idx : Nat} {y : MethodName} {c : ByteArray} {n : Nat} {r : Option FieldType} (h1 : Cond.methodLink own idx y ∈ lw_all) (h2 : Cond.static y ∈ lw_all) (h4 : Cond.initialized y.cls ∈ lw_all) (h5 : Cond.code y c n r ∈ lw_all) : GoodIn lw_all (va_wsS own idx y (ws_ y c n r)) := by
  intro w h
  rcases List.mem_append.mp h with h | h
  · rcases List.mem_cons.mp h with e | h
    · rw [e]; exact lw_gd h1
    · rcases List.mem_cons.mp h with e | h
      · rw [e]; exact lw_gd h2
      · rcases List.mem_cons.mp h with e | h
        · rw [e]; exact lw_gd h4
        · cases h
  · exact gw_ws h5 w h
theorem ini_L : Cond.initialized RL ∈ lw_all := lw_mem (i := 47) (by decide +kernel) (by decide +kernel)
theorem ini_X0 : Cond.initialized RX0 ∈ lw_all := lw_mem (i := 48) (by decide +kernel) (by decide +kernel)
theorem ini_X1 : Cond.initialized RX1 ∈ lw_all := lw_mem (i := 49) (by decide +kernel) (by decide +kernel)
theorem ini_Throwable : Cond.initialized "java/lang/Throwable" ∈ lw_all := lw_mem (i := 50) (by decide +kernel) (by decide +kernel)
theorem ini_Exception : Cond.initialized "java/lang/Exception" ∈ lw_all := lw_mem (i := 51) (by decide +kernel) (by decide +kernel)
theorem ini_RuntimeException : Cond.initialized "java/lang/RuntimeException" ∈ lw_all := lw_mem (i := 52) (by decide +kernel) (by decide +kernel)
theorem ini_IllegalArgumentException : Cond.initialized "java/lang/IllegalArgumentException" ∈ lw_all := lw_mem (i := 53) (by decide +kernel) (by decide +kernel)
theorem ini_J9 : Cond.initialized "java/lang/Math" ∈ lw_all := lw_mem (i := 54) (by decide +kernel) (by decide +kernel)
theorem ini_IllegalStateException : Cond.initialized "java/lang/IllegalStateException" ∈ lw_all := lw_mem (i := 55) (by decide +kernel) (by decide +kernel)
theorem ini_IndexOutOfBoundsException : Cond.initialized "java/lang/IndexOutOfBoundsException" ∈ lw_all := lw_mem (i := 56) (by decide +kernel) (by decide +kernel)
theorem cl_L_8 : Cond.classLink RL 8 "CoreScheduler" ∈ lw_all := lw_mem (i := 57) (by decide +kernel) (by decide +kernel)
theorem inst_X0 : Cond.instantiable RX0 17 ∈ lw_all := lw_mem (i := 58) (by decide +kernel) (by decide +kernel)
theorem fl_X0_9 : Cond.fieldLink RX0 9 "CoreScheduler" "taskCpu" "[I" ∈ lw_all := lw_mem (i := 69) (by decide +kernel) (by decide +kernel)
theorem fl_X0_13 : Cond.fieldLink RX0 13 "CoreScheduler" "taskWeight" "[I" ∈ lw_all := lw_mem (i := 70) (by decide +kernel) (by decide +kernel)
theorem fl_X0_16 : Cond.fieldLink RX0 16 "CoreScheduler" "taskCookie" "[I" ∈ lw_all := lw_mem (i := 71) (by decide +kernel) (by decide +kernel)
theorem fl_X0_19 : Cond.fieldLink RX0 19 "CoreScheduler" "taskState" "[I" ∈ lw_all := lw_mem (i := 72) (by decide +kernel) (by decide +kernel)
theorem fl_X0_22 : Cond.fieldLink RX0 22 "CoreScheduler" "taskTime" "[J" ∈ lw_all := lw_mem (i := 73) (by decide +kernel) (by decide +kernel)
theorem fl_X0_26 : Cond.fieldLink RX0 26 "CoreScheduler" "taskRun" "[I" ∈ lw_all := lw_mem (i := 74) (by decide +kernel) (by decide +kernel)
theorem fl_X0_29 : Cond.fieldLink RX0 29 "CoreScheduler" "taskWait" "[I" ∈ lw_all := lw_mem (i := 75) (by decide +kernel) (by decide +kernel)
theorem fl_X0_32 : Cond.fieldLink RX0 32 "CoreScheduler" "cpuBase" "[J" ∈ lw_all := lw_mem (i := 76) (by decide +kernel) (by decide +kernel)
theorem fl_X0_35 : Cond.fieldLink RX0 35 "CoreScheduler" "cpuTask" "[I" ∈ lw_all := lw_mem (i := 77) (by decide +kernel) (by decide +kernel)
theorem fl_X0_38 : Cond.fieldLink RX0 38 "CoreScheduler" "cpuForced" "[Z" ∈ lw_all := lw_mem (i := 78) (by decide +kernel) (by decide +kernel)
theorem fl_X0_42 : Cond.fieldLink RX0 42 "CoreScheduler" "cpuIdle" "[I" ∈ lw_all := lw_mem (i := 79) (by decide +kernel) (by decide +kernel)
theorem fl_X0_45 : Cond.fieldLink RX0 45 "CoreScheduler" "cpuForcedIdle" "[I" ∈ lw_all := lw_mem (i := 80) (by decide +kernel) (by decide +kernel)
theorem fl_X0_48 : Cond.fieldLink RX0 48 "CoreScheduler" "pickedCookie" "[I" ∈ lw_all := lw_mem (i := 81) (by decide +kernel) (by decide +kernel)
theorem fl_X0_62 : Cond.fieldLink RX0 62 "CoreScheduler" "coreTotal" "I" ∈ lw_all := lw_mem (i := 82) (by decide +kernel) (by decide +kernel)
theorem fl_X0_85 : Cond.fieldLink RX0 85 "CoreScheduler" "taskTotal" "I" ∈ lw_all := lw_mem (i := 83) (by decide +kernel) (by decide +kernel)
theorem fl_X0_142 : Cond.fieldLink RX0 142 "CoreScheduler" "stolenTotal" "I" ∈ lw_all := lw_mem (i := 84) (by decide +kernel) (by decide +kernel)
theorem fl_X0_66 : Cond.fieldLink RX0 66 "CoreScheduler" "stealing" "Z" ∈ lw_all := lw_mem (i := 85) (by decide +kernel) (by decide +kernel)
theorem acl_int : Cond.arrayClass .int ∈ lw_all := lw_mem (i := 121) (by decide +kernel) (by decide +kernel)
theorem acl_long : Cond.arrayClass .long ∈ lw_all := lw_mem (i := 122) (by decide +kernel) (by decide +kernel)
theorem acl_boolean : Cond.arrayClass .boolean ∈ lw_all := lw_mem (i := 123) (by decide +kernel) (by decide +kernel)
theorem cl_L_13 : Cond.classLink RL 13 "java/lang/IllegalArgumentException" ∈ lw_all := lw_mem (i := 139) (by decide +kernel) (by decide +kernel)
theorem cl_X0_55 : Cond.classLink RX0 55 "java/lang/IllegalArgumentException" ∈ lw_all := lw_mem (i := 144) (by decide +kernel) (by decide +kernel)
theorem acl_byte : Cond.arrayClass .byte ∈ lw_all := lw_mem (i := 211) (by decide +kernel) (by decide +kernel)
theorem cl_L_22 : Cond.classLink RL 22 "java/lang/IllegalStateException" ∈ lw_all := lw_mem (i := 316) (by decide +kernel) (by decide +kernel)
theorem cl_X0_88 : Cond.classLink RX0 88 "java/lang/IllegalStateException" ∈ lw_all := lw_mem (i := 334) (by decide +kernel) (by decide +kernel)
theorem cl_L_78 : Cond.classLink RL 78 "java/lang/IndexOutOfBoundsException" ∈ lw_all := lw_mem (i := 491) (by decide +kernel) (by decide +kernel)
theorem cl_X0_137 : Cond.classLink RX0 137 "java/lang/IndexOutOfBoundsException" ∈ lw_all := lw_mem (i := 500) (by decide +kernel) (by decide +kernel)
theorem cl_L_90 : Cond.classLink RL 90 "CoreSchedulerModel" ∈ lw_all := lw_mem (i := 537) (by decide +kernel) (by decide +kernel)
theorem inst_X1 : Cond.instantiable RX1 18 ∈ lw_all := lw_mem (i := 538) (by decide +kernel) (by decide +kernel)
theorem fl_X1_59 : Cond.fieldLink RX1 59 "CoreSchedulerModel" "fault" "I" ∈ lw_all := lw_mem (i := 547) (by decide +kernel) (by decide +kernel)
theorem fl_X1_7 : Cond.fieldLink RX1 7 "CoreSchedulerModel" "cores" "I" ∈ lw_all := lw_mem (i := 548) (by decide +kernel) (by decide +kernel)
theorem fl_X1_62 : Cond.fieldLink RX1 62 "CoreSchedulerModel" "stealing" "Z" ∈ lw_all := lw_mem (i := 549) (by decide +kernel) (by decide +kernel)
theorem fl_X1_66 : Cond.fieldLink RX1 66 "CoreSchedulerModel" "stolen" "I" ∈ lw_all := lw_mem (i := 550) (by decide +kernel) (by decide +kernel)
theorem fl_X1_13 : Cond.fieldLink RX1 13 "CoreSchedulerModel" "base" "[J" ∈ lw_all := lw_mem (i := 551) (by decide +kernel) (by decide +kernel)
theorem fl_X1_17 : Cond.fieldLink RX1 17 "CoreSchedulerModel" "runs" "[I" ∈ lw_all := lw_mem (i := 552) (by decide +kernel) (by decide +kernel)
theorem fl_X1_21 : Cond.fieldLink RX1 21 "CoreSchedulerModel" "forced" "[Z" ∈ lw_all := lw_mem (i := 553) (by decide +kernel) (by decide +kernel)
theorem fl_X1_25 : Cond.fieldLink RX1 25 "CoreSchedulerModel" "idle" "[I" ∈ lw_all := lw_mem (i := 554) (by decide +kernel) (by decide +kernel)
theorem fl_X1_28 : Cond.fieldLink RX1 28 "CoreSchedulerModel" "forcedIdle" "[I" ∈ lw_all := lw_mem (i := 555) (by decide +kernel) (by decide +kernel)
theorem fl_X1_31 : Cond.fieldLink RX1 31 "CoreSchedulerModel" "coreCookie" "[I" ∈ lw_all := lw_mem (i := 556) (by decide +kernel) (by decide +kernel)
theorem fl_X1_69 : Cond.fieldLink RX1 69 "CoreSchedulerModel" "tasks" "I" ∈ lw_all := lw_mem (i := 557) (by decide +kernel) (by decide +kernel)
theorem fl_X1_34 : Cond.fieldLink RX1 34 "CoreSchedulerModel" "cpu" "[I" ∈ lw_all := lw_mem (i := 558) (by decide +kernel) (by decide +kernel)
theorem fl_X1_37 : Cond.fieldLink RX1 37 "CoreSchedulerModel" "weight" "[I" ∈ lw_all := lw_mem (i := 559) (by decide +kernel) (by decide +kernel)
theorem fl_X1_40 : Cond.fieldLink RX1 40 "CoreSchedulerModel" "cookie" "[I" ∈ lw_all := lw_mem (i := 560) (by decide +kernel) (by decide +kernel)
theorem fl_X1_43 : Cond.fieldLink RX1 43 "CoreSchedulerModel" "state" "[I" ∈ lw_all := lw_mem (i := 561) (by decide +kernel) (by decide +kernel)
theorem fl_X1_46 : Cond.fieldLink RX1 46 "CoreSchedulerModel" "time" "[J" ∈ lw_all := lw_mem (i := 562) (by decide +kernel) (by decide +kernel)
theorem fl_X1_49 : Cond.fieldLink RX1 49 "CoreSchedulerModel" "ran" "[I" ∈ lw_all := lw_mem (i := 563) (by decide +kernel) (by decide +kernel)
theorem fl_X1_52 : Cond.fieldLink RX1 52 "CoreSchedulerModel" "waited" "[I" ∈ lw_all := lw_mem (i := 564) (by decide +kernel) (by decide +kernel)
theorem kl_X1_76 : Cond.constantLong RX1 76 4 ∈ lw_all := lw_mem (i := 610) (by decide +kernel) (by decide +kernel)
theorem kl_X1_115 : Cond.constantLong RX1 115 100 ∈ lw_all := lw_mem (i := 626) (by decide +kernel) (by decide +kernel)
theorem kl_X1_121 : Cond.constantLong RX1 121 64 ∈ lw_all := lw_mem (i := 678) (by decide +kernel) (by decide +kernel)
theorem kl_X1_123 : Cond.constantLong RX1 123 9 ∈ lw_all := lw_mem (i := 682) (by decide +kernel) (by decide +kernel)
theorem acl_double : Cond.arrayClass .double ∈ lw_all := lw_mem (i := 787) (by decide +kernel) (by decide +kernel)
theorem im_X0_init : Cond.instanceMethod yX0_init ∈ lw_all := lw_mem (i := 60) (by decide +kernel) (by decide +kernel)
theorem im_X0_startAnew : Cond.instanceMethod yX0_startAnew ∈ lw_all := lw_mem (i := 67) (by decide +kernel) (by decide +kernel)
theorem im_X0_setStealing : Cond.instanceMethod yX0_setStealing ∈ lw_all := lw_mem (i := 125) (by decide +kernel) (by decide +kernel)
theorem im_X0_taskCount : Cond.instanceMethod yX0_taskCount ∈ lw_all := lw_mem (i := 129) (by decide +kernel) (by decide +kernel)
theorem im_X0_stolenTasks : Cond.instanceMethod yX0_stolenTasks ∈ lw_all := lw_mem (i := 133) (by decide +kernel) (by decide +kernel)
theorem st_L_reset : Cond.static yL_reset ∈ lw_all := lw_mem (i := 137) (by decide +kernel) (by decide +kernel)
theorem im_X0_reset : Cond.instanceMethod yX0_reset ∈ lw_all := lw_mem (i := 141) (by decide +kernel) (by decide +kernel)
theorem st_L_tick : Cond.static yL_tick ∈ lw_all := lw_mem (i := 213) (by decide +kernel) (by decide +kernel)
theorem im_X0_tick : Cond.instanceMethod yX0_tick ∈ lw_all := lw_mem (i := 216) (by decide +kernel) (by decide +kernel)
theorem im_X0_simulateTick : Cond.instanceMethod yX0_simulateTick ∈ lw_all := lw_mem (i := 222) (by decide +kernel) (by decide +kernel)
theorem im_X0_pickForCore : Cond.instanceMethod yX0_pickForCore ∈ lw_all := lw_mem (i := 226) (by decide +kernel) (by decide +kernel)
theorem im_X0_findLeader : Cond.instanceMethod yX0_findLeader ∈ lw_all := lw_mem (i := 230) (by decide +kernel) (by decide +kernel)
theorem im_X0_isRunnable : Cond.instanceMethod yX0_isRunnable ∈ lw_all := lw_mem (i := 234) (by decide +kernel) (by decide +kernel)
theorem im_X0_isOnCore : Cond.instanceMethod yX0_isOnCore ∈ lw_all := lw_mem (i := 238) (by decide +kernel) (by decide +kernel)
theorem st_X0_coreOfCpu : Cond.static yX0_coreOfCpu ∈ lw_all := lw_mem (i := 241) (by decide +kernel) (by decide +kernel)
theorem im_X0_comesBefore : Cond.instanceMethod yX0_comesBefore ∈ lw_all := lw_mem (i := 245) (by decide +kernel) (by decide +kernel)
theorem im_X0_relativeTime : Cond.instanceMethod yX0_relativeTime ∈ lw_all := lw_mem (i := 249) (by decide +kernel) (by decide +kernel)
theorem im_X0_releaseTasks : Cond.instanceMethod yX0_releaseTasks ∈ lw_all := lw_mem (i := 253) (by decide +kernel) (by decide +kernel)
theorem im_X0_takeTask : Cond.instanceMethod yX0_takeTask ∈ lw_all := lw_mem (i := 257) (by decide +kernel) (by decide +kernel)
theorem im_X0_findOwn : Cond.instanceMethod yX0_findOwn ∈ lw_all := lw_mem (i := 261) (by decide +kernel) (by decide +kernel)
theorem im_X0_isQueued : Cond.instanceMethod yX0_isQueued ∈ lw_all := lw_mem (i := 265) (by decide +kernel) (by decide +kernel)
theorem im_X0_findLoot : Cond.instanceMethod yX0_findLoot ∈ lw_all := lw_mem (i := 269) (by decide +kernel) (by decide +kernel)
theorem im_X0_isLoot : Cond.instanceMethod yX0_isLoot ∈ lw_all := lw_mem (i := 273) (by decide +kernel) (by decide +kernel)
theorem im_X0_moveRunnable : Cond.instanceMethod yX0_moveRunnable ∈ lw_all := lw_mem (i := 277) (by decide +kernel) (by decide +kernel)
theorem im_X0_giveToCpu : Cond.instanceMethod yX0_giveToCpu ∈ lw_all := lw_mem (i := 281) (by decide +kernel) (by decide +kernel)
theorem im_X0_countQueue : Cond.instanceMethod yX0_countQueue ∈ lw_all := lw_mem (i := 285) (by decide +kernel) (by decide +kernel)
theorem im_X0_chargeTasks : Cond.instanceMethod yX0_chargeTasks ∈ lw_all := lw_mem (i := 289) (by decide +kernel) (by decide +kernel)
theorem st_X0_costOfTick : Cond.static yX0_costOfTick ∈ lw_all := lw_mem (i := 292) (by decide +kernel) (by decide +kernel)
theorem im_X0_countIdleCpus : Cond.instanceMethod yX0_countIdleCpus ∈ lw_all := lw_mem (i := 296) (by decide +kernel) (by decide +kernel)
theorem im_X0_cpuTotal : Cond.instanceMethod yX0_cpuTotal ∈ lw_all := lw_mem (i := 300) (by decide +kernel) (by decide +kernel)
theorem im_X0_raiseBases : Cond.instanceMethod yX0_raiseBases ∈ lw_all := lw_mem (i := 304) (by decide +kernel) (by decide +kernel)
theorem im_X0_findLeastTime : Cond.instanceMethod yX0_findLeastTime ∈ lw_all := lw_mem (i := 308) (by decide +kernel) (by decide +kernel)
theorem st_J9_max_f86c9 : Cond.static yJ9_max_f86c9 ∈ lw_all := lw_mem (i := 311) (by decide +kernel) (by decide +kernel)
theorem st_L_createTask : Cond.static yL_createTask ∈ lw_all := lw_mem (i := 314) (by decide +kernel) (by decide +kernel)
theorem im_X0_createTask : Cond.instanceMethod yX0_createTask ∈ lw_all := lw_mem (i := 318) (by decide +kernel) (by decide +kernel)
theorem im_X0_checkCpu : Cond.instanceMethod yX0_checkCpu ∈ lw_all := lw_mem (i := 323) (by decide +kernel) (by decide +kernel)
theorem st_X0_checkWeight : Cond.static yX0_checkWeight ∈ lw_all := lw_mem (i := 327) (by decide +kernel) (by decide +kernel)
theorem st_X0_checkCookie : Cond.static yX0_checkCookie ∈ lw_all := lw_mem (i := 331) (by decide +kernel) (by decide +kernel)
theorem im_X0_enterQueue : Cond.instanceMethod yX0_enterQueue ∈ lw_all := lw_mem (i := 352) (by decide +kernel) (by decide +kernel)
theorem st_L_sleep : Cond.static yL_sleep ∈ lw_all := lw_mem (i := 355) (by decide +kernel) (by decide +kernel)
theorem im_X0_sleep : Cond.instanceMethod yX0_sleep ∈ lw_all := lw_mem (i := 358) (by decide +kernel) (by decide +kernel)
theorem im_X0_checkTask : Cond.instanceMethod yX0_checkTask ∈ lw_all := lw_mem (i := 363) (by decide +kernel) (by decide +kernel)
theorem im_X0_stopTask : Cond.instanceMethod yX0_stopTask ∈ lw_all := lw_mem (i := 369) (by decide +kernel) (by decide +kernel)
theorem st_L_wake : Cond.static yL_wake ∈ lw_all := lw_mem (i := 372) (by decide +kernel) (by decide +kernel)
theorem im_X0_wake : Cond.instanceMethod yX0_wake ∈ lw_all := lw_mem (i := 375) (by decide +kernel) (by decide +kernel)
theorem st_L_exit : Cond.static yL_exit ∈ lw_all := lw_mem (i := 380) (by decide +kernel) (by decide +kernel)
theorem im_X0_exit : Cond.instanceMethod yX0_exit ∈ lw_all := lw_mem (i := 383) (by decide +kernel) (by decide +kernel)
theorem im_X0_checkNotExited : Cond.instanceMethod yX0_checkNotExited ∈ lw_all := lw_mem (i := 388) (by decide +kernel) (by decide +kernel)
theorem st_L_setWeight : Cond.static yL_setWeight ∈ lw_all := lw_mem (i := 392) (by decide +kernel) (by decide +kernel)
theorem im_X0_setWeight : Cond.instanceMethod yX0_setWeight ∈ lw_all := lw_mem (i := 395) (by decide +kernel) (by decide +kernel)
theorem st_L_setCookie : Cond.static yL_setCookie ∈ lw_all := lw_mem (i := 399) (by decide +kernel) (by decide +kernel)
theorem im_X0_setCookie : Cond.instanceMethod yX0_setCookie ∈ lw_all := lw_mem (i := 402) (by decide +kernel) (by decide +kernel)
theorem st_L_moveTask : Cond.static yL_moveTask ∈ lw_all := lw_mem (i := 406) (by decide +kernel) (by decide +kernel)
theorem im_X0_moveTask : Cond.instanceMethod yX0_moveTask ∈ lw_all := lw_mem (i := 409) (by decide +kernel) (by decide +kernel)
theorem st_L_stateOf : Cond.static yL_stateOf ∈ lw_all := lw_mem (i := 414) (by decide +kernel) (by decide +kernel)
theorem im_X0_stateOf : Cond.instanceMethod yX0_stateOf ∈ lw_all := lw_mem (i := 417) (by decide +kernel) (by decide +kernel)
theorem st_L_cpuOf : Cond.static yL_cpuOf ∈ lw_all := lw_mem (i := 421) (by decide +kernel) (by decide +kernel)
theorem im_X0_cpuOf : Cond.instanceMethod yX0_cpuOf ∈ lw_all := lw_mem (i := 424) (by decide +kernel) (by decide +kernel)
theorem st_L_virtualTime : Cond.static yL_virtualTime ∈ lw_all := lw_mem (i := 428) (by decide +kernel) (by decide +kernel)
theorem im_X0_virtualTime : Cond.instanceMethod yX0_virtualTime ∈ lw_all := lw_mem (i := 431) (by decide +kernel) (by decide +kernel)
theorem st_L_runTicks : Cond.static yL_runTicks ∈ lw_all := lw_mem (i := 435) (by decide +kernel) (by decide +kernel)
theorem im_X0_runTicks : Cond.instanceMethod yX0_runTicks ∈ lw_all := lw_mem (i := 438) (by decide +kernel) (by decide +kernel)
theorem st_L_waitTicks : Cond.static yL_waitTicks ∈ lw_all := lw_mem (i := 442) (by decide +kernel) (by decide +kernel)
theorem im_X0_waitTicks : Cond.instanceMethod yX0_waitTicks ∈ lw_all := lw_mem (i := 445) (by decide +kernel) (by decide +kernel)
theorem st_L_share : Cond.static yL_share ∈ lw_all := lw_mem (i := 449) (by decide +kernel) (by decide +kernel)
theorem im_X0_share : Cond.instanceMethod yX0_share ∈ lw_all := lw_mem (i := 452) (by decide +kernel) (by decide +kernel)
theorem st_L_runningTask : Cond.static yL_runningTask ∈ lw_all := lw_mem (i := 456) (by decide +kernel) (by decide +kernel)
theorem im_X0_runningTask : Cond.instanceMethod yX0_runningTask ∈ lw_all := lw_mem (i := 459) (by decide +kernel) (by decide +kernel)
theorem st_L_coreCookie : Cond.static yL_coreCookie ∈ lw_all := lw_mem (i := 463) (by decide +kernel) (by decide +kernel)
theorem im_X0_coreCookie : Cond.instanceMethod yX0_coreCookie ∈ lw_all := lw_mem (i := 466) (by decide +kernel) (by decide +kernel)
theorem im_X0_checkCore : Cond.instanceMethod yX0_checkCore ∈ lw_all := lw_mem (i := 471) (by decide +kernel) (by decide +kernel)
theorem st_L_leaderOf : Cond.static yL_leaderOf ∈ lw_all := lw_mem (i := 475) (by decide +kernel) (by decide +kernel)
theorem im_X0_leaderOf : Cond.instanceMethod yX0_leaderOf ∈ lw_all := lw_mem (i := 478) (by decide +kernel) (by decide +kernel)
theorem st_L_queueLength : Cond.static yL_queueLength ∈ lw_all := lw_mem (i := 482) (by decide +kernel) (by decide +kernel)
theorem im_X0_queueLength : Cond.instanceMethod yX0_queueLength ∈ lw_all := lw_mem (i := 485) (by decide +kernel) (by decide +kernel)
theorem st_L_queuedTask : Cond.static yL_queuedTask ∈ lw_all := lw_mem (i := 489) (by decide +kernel) (by decide +kernel)
theorem im_X0_queuedTask : Cond.instanceMethod yX0_queuedTask ∈ lw_all := lw_mem (i := 493) (by decide +kernel) (by decide +kernel)
theorem im_X0_positionOf : Cond.instanceMethod yX0_positionOf ∈ lw_all := lw_mem (i := 498) (by decide +kernel) (by decide +kernel)
theorem st_L_baseOf : Cond.static yL_baseOf ∈ lw_all := lw_mem (i := 517) (by decide +kernel) (by decide +kernel)
theorem im_X0_baseOf : Cond.instanceMethod yX0_baseOf ∈ lw_all := lw_mem (i := 520) (by decide +kernel) (by decide +kernel)
theorem st_L_idleTicks : Cond.static yL_idleTicks ∈ lw_all := lw_mem (i := 524) (by decide +kernel) (by decide +kernel)
theorem im_X0_idleTicks : Cond.instanceMethod yX0_idleTicks ∈ lw_all := lw_mem (i := 527) (by decide +kernel) (by decide +kernel)
theorem st_L_forcedIdleTicks : Cond.static yL_forcedIdleTicks ∈ lw_all := lw_mem (i := 531) (by decide +kernel) (by decide +kernel)
theorem im_X0_forcedIdleTicks : Cond.instanceMethod yX0_forcedIdleTicks ∈ lw_all := lw_mem (i := 534) (by decide +kernel) (by decide +kernel)
theorem im_X1_init : Cond.instanceMethod yX1_init ∈ lw_all := lw_mem (i := 540) (by decide +kernel) (by decide +kernel)
theorem im_X1_begins : Cond.instanceMethod yX1_begins ∈ lw_all := lw_mem (i := 545) (by decide +kernel) (by decide +kernel)
theorem im_X1_thrown : Cond.instanceMethod yX1_thrown ∈ lw_all := lw_mem (i := 603) (by decide +kernel) (by decide +kernel)
theorem im_X1_reset : Cond.instanceMethod yX1_reset ∈ lw_all := lw_mem (i := 607) (by decide +kernel) (by decide +kernel)
theorem st_X1_in : Cond.static yX1_in ∈ lw_all := lw_mem (i := 612) (by decide +kernel) (by decide +kernel)
theorem im_X1_isRefused : Cond.instanceMethod yX1_isRefused ∈ lw_all := lw_mem (i := 616) (by decide +kernel) (by decide +kernel)
theorem im_X1_setStealing : Cond.instanceMethod yX1_setStealing ∈ lw_all := lw_mem (i := 619) (by decide +kernel) (by decide +kernel)
theorem im_X1_tick : Cond.instanceMethod yX1_tick ∈ lw_all := lw_mem (i := 623) (by decide +kernel) (by decide +kernel)
theorem im_X1_tickOne : Cond.instanceMethod yX1_tickOne ∈ lw_all := lw_mem (i := 629) (by decide +kernel) (by decide +kernel)
theorem im_X1_picks : Cond.instanceMethod yX1_picks ∈ lw_all := lw_mem (i := 633) (by decide +kernel) (by decide +kernel)
theorem im_X1_leader : Cond.instanceMethod yX1_leader ∈ lw_all := lw_mem (i := 637) (by decide +kernel) (by decide +kernel)
theorem im_X1_isRunnable : Cond.instanceMethod yX1_isRunnable ∈ lw_all := lw_mem (i := 641) (by decide +kernel) (by decide +kernel)
theorem im_X1_isAhead : Cond.instanceMethod yX1_isAhead ∈ lw_all := lw_mem (i := 645) (by decide +kernel) (by decide +kernel)
theorem im_X1_relative : Cond.instanceMethod yX1_relative ∈ lw_all := lw_mem (i := 649) (by decide +kernel) (by decide +kernel)
theorem im_X1_firstOf : Cond.instanceMethod yX1_firstOf ∈ lw_all := lw_mem (i := 653) (by decide +kernel) (by decide +kernel)
theorem im_X1_toSteal : Cond.instanceMethod yX1_toSteal ∈ lw_all := lw_mem (i := 657) (by decide +kernel) (by decide +kernel)
theorem im_X1_goesTo : Cond.instanceMethod yX1_goesTo ∈ lw_all := lw_mem (i := 661) (by decide +kernel) (by decide +kernel)
theorem im_X1_queued : Cond.instanceMethod yX1_queued ∈ lw_all := lw_mem (i := 665) (by decide +kernel) (by decide +kernel)
theorem im_X1_createTask : Cond.instanceMethod yX1_createTask ∈ lw_all := lw_mem (i := 668) (by decide +kernel) (by decide +kernel)
theorem im_X1_noCpu : Cond.instanceMethod yX1_noCpu ∈ lw_all := lw_mem (i := 673) (by decide +kernel) (by decide +kernel)
theorem st_X1_noWeight : Cond.static yX1_noWeight ∈ lw_all := lw_mem (i := 676) (by decide +kernel) (by decide +kernel)
theorem st_X1_noCookie : Cond.static yX1_noCookie ∈ lw_all := lw_mem (i := 680) (by decide +kernel) (by decide +kernel)
theorem im_X1_sleep : Cond.instanceMethod yX1_sleep ∈ lw_all := lw_mem (i := 684) (by decide +kernel) (by decide +kernel)
theorem im_X1_noTask : Cond.instanceMethod yX1_noTask ∈ lw_all := lw_mem (i := 689) (by decide +kernel) (by decide +kernel)
theorem im_X1_becomes : Cond.instanceMethod yX1_becomes ∈ lw_all := lw_mem (i := 693) (by decide +kernel) (by decide +kernel)
theorem im_X1_wake : Cond.instanceMethod yX1_wake ∈ lw_all := lw_mem (i := 696) (by decide +kernel) (by decide +kernel)
theorem im_X1_exit : Cond.instanceMethod yX1_exit ∈ lw_all := lw_mem (i := 700) (by decide +kernel) (by decide +kernel)
theorem im_X1_hasExited : Cond.instanceMethod yX1_hasExited ∈ lw_all := lw_mem (i := 705) (by decide +kernel) (by decide +kernel)
theorem im_X1_setWeight : Cond.instanceMethod yX1_setWeight ∈ lw_all := lw_mem (i := 708) (by decide +kernel) (by decide +kernel)
theorem im_X1_setCookie : Cond.instanceMethod yX1_setCookie ∈ lw_all := lw_mem (i := 712) (by decide +kernel) (by decide +kernel)
theorem im_X1_moveTask : Cond.instanceMethod yX1_moveTask ∈ lw_all := lw_mem (i := 716) (by decide +kernel) (by decide +kernel)
theorem im_X1_taskCount : Cond.instanceMethod yX1_taskCount ∈ lw_all := lw_mem (i := 720) (by decide +kernel) (by decide +kernel)
theorem im_X1_stateOf : Cond.instanceMethod yX1_stateOf ∈ lw_all := lw_mem (i := 724) (by decide +kernel) (by decide +kernel)
theorem im_X1_cpuOf : Cond.instanceMethod yX1_cpuOf ∈ lw_all := lw_mem (i := 728) (by decide +kernel) (by decide +kernel)
theorem im_X1_virtualTime : Cond.instanceMethod yX1_virtualTime ∈ lw_all := lw_mem (i := 732) (by decide +kernel) (by decide +kernel)
theorem im_X1_runTicks : Cond.instanceMethod yX1_runTicks ∈ lw_all := lw_mem (i := 736) (by decide +kernel) (by decide +kernel)
theorem im_X1_waitTicks : Cond.instanceMethod yX1_waitTicks ∈ lw_all := lw_mem (i := 740) (by decide +kernel) (by decide +kernel)
theorem im_X1_share : Cond.instanceMethod yX1_share ∈ lw_all := lw_mem (i := 744) (by decide +kernel) (by decide +kernel)
theorem im_X1_runningTask : Cond.instanceMethod yX1_runningTask ∈ lw_all := lw_mem (i := 748) (by decide +kernel) (by decide +kernel)
theorem im_X1_coreCookie : Cond.instanceMethod yX1_coreCookie ∈ lw_all := lw_mem (i := 752) (by decide +kernel) (by decide +kernel)
theorem im_X1_noCore : Cond.instanceMethod yX1_noCore ∈ lw_all := lw_mem (i := 757) (by decide +kernel) (by decide +kernel)
theorem im_X1_leaderOf : Cond.instanceMethod yX1_leaderOf ∈ lw_all := lw_mem (i := 760) (by decide +kernel) (by decide +kernel)
theorem im_X1_queueLength : Cond.instanceMethod yX1_queueLength ∈ lw_all := lw_mem (i := 764) (by decide +kernel) (by decide +kernel)
theorem im_X1_queuedTask : Cond.instanceMethod yX1_queuedTask ∈ lw_all := lw_mem (i := 768) (by decide +kernel) (by decide +kernel)
theorem im_X1_baseOf : Cond.instanceMethod yX1_baseOf ∈ lw_all := lw_mem (i := 772) (by decide +kernel) (by decide +kernel)
theorem im_X1_idleTicks : Cond.instanceMethod yX1_idleTicks ∈ lw_all := lw_mem (i := 776) (by decide +kernel) (by decide +kernel)
theorem im_X1_forcedIdleTicks : Cond.instanceMethod yX1_forcedIdleTicks ∈ lw_all := lw_mem (i := 780) (by decide +kernel) (by decide +kernel)
theorem im_X1_stolenTasks : Cond.instanceMethod yX1_stolenTasks ∈ lw_all := lw_mem (i := 784) (by decide +kernel) (by decide +kernel)
theorem cd_X0_init : Cond.code yX0_init cX0_init 1 none ∈ lw_all := lw_mem (i := 61) (by decide +kernel) (by decide +kernel)
theorem cd_X0_startAnew : Cond.code yX0_startAnew cX0_startAnew 3 none ∈ lw_all := lw_mem (i := 68) (by decide +kernel) (by decide +kernel)
theorem cd_X0_setStealing : Cond.code yX0_setStealing cX0_setStealing 3 (some .boolean) ∈ lw_all := lw_mem (i := 127) (by decide +kernel) (by decide +kernel)
theorem cd_X0_taskCount : Cond.code yX0_taskCount cX0_taskCount 1 (some .int) ∈ lw_all := lw_mem (i := 131) (by decide +kernel) (by decide +kernel)
theorem cd_X0_stolenTasks : Cond.code yX0_stolenTasks cX0_stolenTasks 1 (some .int) ∈ lw_all := lw_mem (i := 135) (by decide +kernel) (by decide +kernel)
theorem cd_X0_reset : Cond.code yX0_reset cX0_reset 3 (some .int) ∈ lw_all := lw_mem (i := 143) (by decide +kernel) (by decide +kernel)
theorem cd_X0_tick : Cond.code yX0_tick cX0_tick 4 (some .int) ∈ lw_all := lw_mem (i := 218) (by decide +kernel) (by decide +kernel)
theorem cd_X0_simulateTick : Cond.code yX0_simulateTick cX0_simulateTick 2 (some .int) ∈ lw_all := lw_mem (i := 223) (by decide +kernel) (by decide +kernel)
theorem cd_X0_pickForCore : Cond.code yX0_pickForCore cX0_pickForCore 7 none ∈ lw_all := lw_mem (i := 227) (by decide +kernel) (by decide +kernel)
theorem cd_X0_findLeader : Cond.code yX0_findLeader cX0_findLeader 4 (some .int) ∈ lw_all := lw_mem (i := 231) (by decide +kernel) (by decide +kernel)
theorem cd_X0_isRunnable : Cond.code yX0_isRunnable cX0_isRunnable 2 (some .boolean) ∈ lw_all := lw_mem (i := 235) (by decide +kernel) (by decide +kernel)
theorem cd_X0_isOnCore : Cond.code yX0_isOnCore cX0_isOnCore 3 (some .boolean) ∈ lw_all := lw_mem (i := 239) (by decide +kernel) (by decide +kernel)
theorem cd_X0_coreOfCpu : Cond.code yX0_coreOfCpu cX0_coreOfCpu 1 (some .int) ∈ lw_all := lw_mem (i := 242) (by decide +kernel) (by decide +kernel)
theorem cd_X0_comesBefore : Cond.code yX0_comesBefore cX0_comesBefore 7 (some .boolean) ∈ lw_all := lw_mem (i := 246) (by decide +kernel) (by decide +kernel)
theorem cd_X0_relativeTime : Cond.code yX0_relativeTime cX0_relativeTime 2 (some .long) ∈ lw_all := lw_mem (i := 250) (by decide +kernel) (by decide +kernel)
theorem cd_X0_releaseTasks : Cond.code yX0_releaseTasks cX0_releaseTasks 3 none ∈ lw_all := lw_mem (i := 254) (by decide +kernel) (by decide +kernel)
theorem cd_X0_takeTask : Cond.code yX0_takeTask cX0_takeTask 5 (some .int) ∈ lw_all := lw_mem (i := 258) (by decide +kernel) (by decide +kernel)
theorem cd_X0_findOwn : Cond.code yX0_findOwn cX0_findOwn 5 (some .int) ∈ lw_all := lw_mem (i := 262) (by decide +kernel) (by decide +kernel)
theorem cd_X0_isQueued : Cond.code yX0_isQueued cX0_isQueued 3 (some .boolean) ∈ lw_all := lw_mem (i := 266) (by decide +kernel) (by decide +kernel)
theorem cd_X0_findLoot : Cond.code yX0_findLoot cX0_findLoot 5 (some .int) ∈ lw_all := lw_mem (i := 270) (by decide +kernel) (by decide +kernel)
theorem cd_X0_isLoot : Cond.code yX0_isLoot cX0_isLoot 4 (some .boolean) ∈ lw_all := lw_mem (i := 274) (by decide +kernel) (by decide +kernel)
theorem cd_X0_moveRunnable : Cond.code yX0_moveRunnable cX0_moveRunnable 3 none ∈ lw_all := lw_mem (i := 278) (by decide +kernel) (by decide +kernel)
theorem cd_X0_giveToCpu : Cond.code yX0_giveToCpu cX0_giveToCpu 3 none ∈ lw_all := lw_mem (i := 282) (by decide +kernel) (by decide +kernel)
theorem cd_X0_countQueue : Cond.code yX0_countQueue cX0_countQueue 4 (some .int) ∈ lw_all := lw_mem (i := 286) (by decide +kernel) (by decide +kernel)
theorem cd_X0_chargeTasks : Cond.code yX0_chargeTasks cX0_chargeTasks 3 (some .int) ∈ lw_all := lw_mem (i := 290) (by decide +kernel) (by decide +kernel)
theorem cd_X0_costOfTick : Cond.code yX0_costOfTick cX0_costOfTick 1 (some .int) ∈ lw_all := lw_mem (i := 293) (by decide +kernel) (by decide +kernel)
theorem cd_X0_countIdleCpus : Cond.code yX0_countIdleCpus cX0_countIdleCpus 2 none ∈ lw_all := lw_mem (i := 297) (by decide +kernel) (by decide +kernel)
theorem cd_X0_cpuTotal : Cond.code yX0_cpuTotal cX0_cpuTotal 1 (some .int) ∈ lw_all := lw_mem (i := 301) (by decide +kernel) (by decide +kernel)
theorem cd_X0_raiseBases : Cond.code yX0_raiseBases cX0_raiseBases 3 none ∈ lw_all := lw_mem (i := 305) (by decide +kernel) (by decide +kernel)
theorem cd_X0_findLeastTime : Cond.code yX0_findLeastTime cX0_findLeastTime 4 (some .int) ∈ lw_all := lw_mem (i := 309) (by decide +kernel) (by decide +kernel)
theorem cd_J9_max_f86c9 : Cond.code yJ9_max_f86c9 cJ9_max_f86c9 4 (some .long) ∈ lw_all := lw_mem (i := 312) (by decide +kernel) (by decide +kernel)
theorem cd_X0_createTask : Cond.code yX0_createTask cX0_createTask 5 (some .int) ∈ lw_all := lw_mem (i := 320) (by decide +kernel) (by decide +kernel)
theorem cd_X0_checkCpu : Cond.code yX0_checkCpu cX0_checkCpu 2 none ∈ lw_all := lw_mem (i := 324) (by decide +kernel) (by decide +kernel)
theorem cd_X0_checkWeight : Cond.code yX0_checkWeight cX0_checkWeight 1 none ∈ lw_all := lw_mem (i := 328) (by decide +kernel) (by decide +kernel)
theorem cd_X0_checkCookie : Cond.code yX0_checkCookie cX0_checkCookie 1 none ∈ lw_all := lw_mem (i := 332) (by decide +kernel) (by decide +kernel)
theorem cd_X0_enterQueue : Cond.code yX0_enterQueue cX0_enterQueue 2 none ∈ lw_all := lw_mem (i := 353) (by decide +kernel) (by decide +kernel)
theorem cd_X0_sleep : Cond.code yX0_sleep cX0_sleep 2 (some .int) ∈ lw_all := lw_mem (i := 360) (by decide +kernel) (by decide +kernel)
theorem cd_X0_checkTask : Cond.code yX0_checkTask cX0_checkTask 2 none ∈ lw_all := lw_mem (i := 364) (by decide +kernel) (by decide +kernel)
theorem cd_X0_stopTask : Cond.code yX0_stopTask cX0_stopTask 4 (some .int) ∈ lw_all := lw_mem (i := 370) (by decide +kernel) (by decide +kernel)
theorem cd_X0_wake : Cond.code yX0_wake cX0_wake 2 (some .long) ∈ lw_all := lw_mem (i := 377) (by decide +kernel) (by decide +kernel)
theorem cd_X0_exit : Cond.code yX0_exit cX0_exit 2 (some .int) ∈ lw_all := lw_mem (i := 385) (by decide +kernel) (by decide +kernel)
theorem cd_X0_checkNotExited : Cond.code yX0_checkNotExited cX0_checkNotExited 2 none ∈ lw_all := lw_mem (i := 389) (by decide +kernel) (by decide +kernel)
theorem cd_X0_setWeight : Cond.code yX0_setWeight cX0_setWeight 4 (some .int) ∈ lw_all := lw_mem (i := 397) (by decide +kernel) (by decide +kernel)
theorem cd_X0_setCookie : Cond.code yX0_setCookie cX0_setCookie 4 (some .int) ∈ lw_all := lw_mem (i := 404) (by decide +kernel) (by decide +kernel)
theorem cd_X0_moveTask : Cond.code yX0_moveTask cX0_moveTask 4 (some .int) ∈ lw_all := lw_mem (i := 411) (by decide +kernel) (by decide +kernel)
theorem cd_X0_stateOf : Cond.code yX0_stateOf cX0_stateOf 2 (some .int) ∈ lw_all := lw_mem (i := 419) (by decide +kernel) (by decide +kernel)
theorem cd_X0_cpuOf : Cond.code yX0_cpuOf cX0_cpuOf 2 (some .int) ∈ lw_all := lw_mem (i := 426) (by decide +kernel) (by decide +kernel)
theorem cd_X0_virtualTime : Cond.code yX0_virtualTime cX0_virtualTime 2 (some .long) ∈ lw_all := lw_mem (i := 433) (by decide +kernel) (by decide +kernel)
theorem cd_X0_runTicks : Cond.code yX0_runTicks cX0_runTicks 2 (some .int) ∈ lw_all := lw_mem (i := 440) (by decide +kernel) (by decide +kernel)
theorem cd_X0_waitTicks : Cond.code yX0_waitTicks cX0_waitTicks 2 (some .int) ∈ lw_all := lw_mem (i := 447) (by decide +kernel) (by decide +kernel)
theorem cd_X0_share : Cond.code yX0_share cX0_share 6 (some .double) ∈ lw_all := lw_mem (i := 454) (by decide +kernel) (by decide +kernel)
theorem cd_X0_runningTask : Cond.code yX0_runningTask cX0_runningTask 2 (some .int) ∈ lw_all := lw_mem (i := 461) (by decide +kernel) (by decide +kernel)
theorem cd_X0_coreCookie : Cond.code yX0_coreCookie cX0_coreCookie 2 (some .int) ∈ lw_all := lw_mem (i := 468) (by decide +kernel) (by decide +kernel)
theorem cd_X0_checkCore : Cond.code yX0_checkCore cX0_checkCore 2 none ∈ lw_all := lw_mem (i := 472) (by decide +kernel) (by decide +kernel)
theorem cd_X0_leaderOf : Cond.code yX0_leaderOf cX0_leaderOf 2 (some .int) ∈ lw_all := lw_mem (i := 480) (by decide +kernel) (by decide +kernel)
theorem cd_X0_queueLength : Cond.code yX0_queueLength cX0_queueLength 2 (some .int) ∈ lw_all := lw_mem (i := 487) (by decide +kernel) (by decide +kernel)
theorem cd_X0_queuedTask : Cond.code yX0_queuedTask cX0_queuedTask 4 (some .int) ∈ lw_all := lw_mem (i := 495) (by decide +kernel) (by decide +kernel)
theorem cd_X0_positionOf : Cond.code yX0_positionOf cX0_positionOf 4 (some .int) ∈ lw_all := lw_mem (i := 499) (by decide +kernel) (by decide +kernel)
theorem cd_X0_baseOf : Cond.code yX0_baseOf cX0_baseOf 2 (some .long) ∈ lw_all := lw_mem (i := 522) (by decide +kernel) (by decide +kernel)
theorem cd_X0_idleTicks : Cond.code yX0_idleTicks cX0_idleTicks 2 (some .int) ∈ lw_all := lw_mem (i := 529) (by decide +kernel) (by decide +kernel)
theorem cd_X0_forcedIdleTicks : Cond.code yX0_forcedIdleTicks cX0_forcedIdleTicks 2 (some .int) ∈ lw_all := lw_mem (i := 536) (by decide +kernel) (by decide +kernel)
theorem cd_X1_init : Cond.code yX1_init cX1_init 1 none ∈ lw_all := lw_mem (i := 541) (by decide +kernel) (by decide +kernel)
theorem cd_X1_begins : Cond.code yX1_begins cX1_begins 3 none ∈ lw_all := lw_mem (i := 546) (by decide +kernel) (by decide +kernel)
theorem cd_X1_thrown : Cond.code yX1_thrown cX1_thrown 1 (some .int) ∈ lw_all := lw_mem (i := 605) (by decide +kernel) (by decide +kernel)
theorem cd_X1_reset : Cond.code yX1_reset cX1_reset 3 (some .int) ∈ lw_all := lw_mem (i := 609) (by decide +kernel) (by decide +kernel)
theorem cd_X1_in : Cond.code yX1_in cX1_in 6 (some .boolean) ∈ lw_all := lw_mem (i := 613) (by decide +kernel) (by decide +kernel)
theorem cd_X1_isRefused : Cond.code yX1_isRefused cX1_isRefused 3 (some .boolean) ∈ lw_all := lw_mem (i := 617) (by decide +kernel) (by decide +kernel)
theorem cd_X1_setStealing : Cond.code yX1_setStealing cX1_setStealing 3 (some .boolean) ∈ lw_all := lw_mem (i := 621) (by decide +kernel) (by decide +kernel)
theorem cd_X1_tick : Cond.code yX1_tick cX1_tick 4 (some .int) ∈ lw_all := lw_mem (i := 625) (by decide +kernel) (by decide +kernel)
theorem cd_X1_tickOne : Cond.code yX1_tickOne cX1_tickOne 5 (some .int) ∈ lw_all := lw_mem (i := 630) (by decide +kernel) (by decide +kernel)
theorem cd_X1_picks : Cond.code yX1_picks cX1_picks 5 none ∈ lw_all := lw_mem (i := 634) (by decide +kernel) (by decide +kernel)
theorem cd_X1_leader : Cond.code yX1_leader cX1_leader 4 (some .int) ∈ lw_all := lw_mem (i := 638) (by decide +kernel) (by decide +kernel)
theorem cd_X1_isRunnable : Cond.code yX1_isRunnable cX1_isRunnable 2 (some .boolean) ∈ lw_all := lw_mem (i := 642) (by decide +kernel) (by decide +kernel)
theorem cd_X1_isAhead : Cond.code yX1_isAhead cX1_isAhead 7 (some .boolean) ∈ lw_all := lw_mem (i := 646) (by decide +kernel) (by decide +kernel)
theorem cd_X1_relative : Cond.code yX1_relative cX1_relative 2 (some .long) ∈ lw_all := lw_mem (i := 650) (by decide +kernel) (by decide +kernel)
theorem cd_X1_firstOf : Cond.code yX1_firstOf cX1_firstOf 5 (some .int) ∈ lw_all := lw_mem (i := 654) (by decide +kernel) (by decide +kernel)
theorem cd_X1_toSteal : Cond.code yX1_toSteal cX1_toSteal 5 (some .int) ∈ lw_all := lw_mem (i := 658) (by decide +kernel) (by decide +kernel)
theorem cd_X1_goesTo : Cond.code yX1_goesTo cX1_goesTo 3 none ∈ lw_all := lw_mem (i := 662) (by decide +kernel) (by decide +kernel)
theorem cd_X1_queued : Cond.code yX1_queued cX1_queued 4 (some .int) ∈ lw_all := lw_mem (i := 666) (by decide +kernel) (by decide +kernel)
theorem cd_X1_createTask : Cond.code yX1_createTask cX1_createTask 5 (some .int) ∈ lw_all := lw_mem (i := 670) (by decide +kernel) (by decide +kernel)
theorem cd_X1_noCpu : Cond.code yX1_noCpu cX1_noCpu 2 (some .boolean) ∈ lw_all := lw_mem (i := 674) (by decide +kernel) (by decide +kernel)
theorem cd_X1_noWeight : Cond.code yX1_noWeight cX1_noWeight 1 (some .boolean) ∈ lw_all := lw_mem (i := 677) (by decide +kernel) (by decide +kernel)
theorem cd_X1_noCookie : Cond.code yX1_noCookie cX1_noCookie 1 (some .boolean) ∈ lw_all := lw_mem (i := 681) (by decide +kernel) (by decide +kernel)
theorem cd_X1_sleep : Cond.code yX1_sleep cX1_sleep 2 (some .int) ∈ lw_all := lw_mem (i := 686) (by decide +kernel) (by decide +kernel)
theorem cd_X1_noTask : Cond.code yX1_noTask cX1_noTask 2 (some .boolean) ∈ lw_all := lw_mem (i := 690) (by decide +kernel) (by decide +kernel)
theorem cd_X1_becomes : Cond.code yX1_becomes cX1_becomes 4 (some .int) ∈ lw_all := lw_mem (i := 694) (by decide +kernel) (by decide +kernel)
theorem cd_X1_wake : Cond.code yX1_wake cX1_wake 2 (some .long) ∈ lw_all := lw_mem (i := 698) (by decide +kernel) (by decide +kernel)
theorem cd_X1_exit : Cond.code yX1_exit cX1_exit 2 (some .int) ∈ lw_all := lw_mem (i := 702) (by decide +kernel) (by decide +kernel)
theorem cd_X1_hasExited : Cond.code yX1_hasExited cX1_hasExited 2 (some .boolean) ∈ lw_all := lw_mem (i := 706) (by decide +kernel) (by decide +kernel)
theorem cd_X1_setWeight : Cond.code yX1_setWeight cX1_setWeight 4 (some .int) ∈ lw_all := lw_mem (i := 710) (by decide +kernel) (by decide +kernel)
theorem cd_X1_setCookie : Cond.code yX1_setCookie cX1_setCookie 4 (some .int) ∈ lw_all := lw_mem (i := 714) (by decide +kernel) (by decide +kernel)
theorem cd_X1_moveTask : Cond.code yX1_moveTask cX1_moveTask 5 (some .int) ∈ lw_all := lw_mem (i := 718) (by decide +kernel) (by decide +kernel)
theorem cd_X1_taskCount : Cond.code yX1_taskCount cX1_taskCount 1 (some .int) ∈ lw_all := lw_mem (i := 722) (by decide +kernel) (by decide +kernel)
theorem cd_X1_stateOf : Cond.code yX1_stateOf cX1_stateOf 2 (some .int) ∈ lw_all := lw_mem (i := 726) (by decide +kernel) (by decide +kernel)
theorem cd_X1_cpuOf : Cond.code yX1_cpuOf cX1_cpuOf 2 (some .int) ∈ lw_all := lw_mem (i := 730) (by decide +kernel) (by decide +kernel)
theorem cd_X1_virtualTime : Cond.code yX1_virtualTime cX1_virtualTime 2 (some .long) ∈ lw_all := lw_mem (i := 734) (by decide +kernel) (by decide +kernel)
theorem cd_X1_runTicks : Cond.code yX1_runTicks cX1_runTicks 2 (some .int) ∈ lw_all := lw_mem (i := 738) (by decide +kernel) (by decide +kernel)
theorem cd_X1_waitTicks : Cond.code yX1_waitTicks cX1_waitTicks 2 (some .int) ∈ lw_all := lw_mem (i := 742) (by decide +kernel) (by decide +kernel)
theorem cd_X1_share : Cond.code yX1_share cX1_share 2 (some .double) ∈ lw_all := lw_mem (i := 746) (by decide +kernel) (by decide +kernel)
theorem cd_X1_runningTask : Cond.code yX1_runningTask cX1_runningTask 2 (some .int) ∈ lw_all := lw_mem (i := 750) (by decide +kernel) (by decide +kernel)
theorem cd_X1_coreCookie : Cond.code yX1_coreCookie cX1_coreCookie 2 (some .int) ∈ lw_all := lw_mem (i := 754) (by decide +kernel) (by decide +kernel)
theorem cd_X1_noCore : Cond.code yX1_noCore cX1_noCore 2 (some .boolean) ∈ lw_all := lw_mem (i := 758) (by decide +kernel) (by decide +kernel)
theorem cd_X1_leaderOf : Cond.code yX1_leaderOf cX1_leaderOf 2 (some .int) ∈ lw_all := lw_mem (i := 762) (by decide +kernel) (by decide +kernel)
theorem cd_X1_queueLength : Cond.code yX1_queueLength cX1_queueLength 2 (some .int) ∈ lw_all := lw_mem (i := 766) (by decide +kernel) (by decide +kernel)
theorem cd_X1_queuedTask : Cond.code yX1_queuedTask cX1_queuedTask 7 (some .int) ∈ lw_all := lw_mem (i := 770) (by decide +kernel) (by decide +kernel)
theorem cd_X1_baseOf : Cond.code yX1_baseOf cX1_baseOf 2 (some .long) ∈ lw_all := lw_mem (i := 774) (by decide +kernel) (by decide +kernel)
theorem cd_X1_idleTicks : Cond.code yX1_idleTicks cX1_idleTicks 2 (some .int) ∈ lw_all := lw_mem (i := 778) (by decide +kernel) (by decide +kernel)
theorem cd_X1_forcedIdleTicks : Cond.code yX1_forcedIdleTicks cX1_forcedIdleTicks 2 (some .int) ∈ lw_all := lw_mem (i := 782) (by decide +kernel) (by decide +kernel)
theorem cd_X1_stolenTasks : Cond.code yX1_stolenTasks cX1_stolenTasks 1 (some .int) ∈ lw_all := lw_mem (i := 786) (by decide +kernel) (by decide +kernel)
theorem cd_L_reset : Cond.codeWith yL_reset cL_reset 4 (some .int) [(0, 9, 12, 13)] ∈ lw_all := lw_mem (i := 138) (by decide +kernel) (by decide +kernel)
theorem cd_L_tick : Cond.codeWith yL_tick cL_tick 4 (some .int) [(0, 9, 12, 13)] ∈ lw_all := lw_mem (i := 214) (by decide +kernel) (by decide +kernel)
theorem cd_L_createTask : Cond.codeWith yL_createTask cL_createTask 6 (some .int) [(0, 12, 15, 13), (0, 12, 19, 22)] ∈ lw_all := lw_mem (i := 315) (by decide +kernel) (by decide +kernel)
theorem cd_L_sleep : Cond.codeWith yL_sleep cL_sleep 4 (some .int) [(0, 9, 12, 13), (0, 9, 15, 22)] ∈ lw_all := lw_mem (i := 356) (by decide +kernel) (by decide +kernel)
theorem cd_L_wake : Cond.codeWith yL_wake cL_wake 4 (some .int) [(0, 8, 11, 13), (0, 8, 14, 22)] ∈ lw_all := lw_mem (i := 373) (by decide +kernel) (by decide +kernel)
theorem cd_L_exit : Cond.codeWith yL_exit cL_exit 4 (some .int) [(0, 9, 12, 13), (0, 9, 15, 22)] ∈ lw_all := lw_mem (i := 381) (by decide +kernel) (by decide +kernel)
theorem cd_L_setWeight : Cond.codeWith yL_setWeight cL_setWeight 5 (some .int) [(0, 10, 13, 13), (0, 10, 17, 22)] ∈ lw_all := lw_mem (i := 393) (by decide +kernel) (by decide +kernel)
theorem cd_L_setCookie : Cond.codeWith yL_setCookie cL_setCookie 5 (some .int) [(0, 10, 13, 13), (0, 10, 17, 22)] ∈ lw_all := lw_mem (i := 400) (by decide +kernel) (by decide +kernel)
theorem cd_L_moveTask : Cond.codeWith yL_moveTask cL_moveTask 5 (some .int) [(0, 10, 13, 13), (0, 10, 17, 22)] ∈ lw_all := lw_mem (i := 407) (by decide +kernel) (by decide +kernel)
theorem cd_L_stateOf : Cond.codeWith yL_stateOf cL_stateOf 4 (some .int) [(0, 9, 12, 13)] ∈ lw_all := lw_mem (i := 415) (by decide +kernel) (by decide +kernel)
theorem cd_L_cpuOf : Cond.codeWith yL_cpuOf cL_cpuOf 4 (some .int) [(0, 9, 12, 13)] ∈ lw_all := lw_mem (i := 422) (by decide +kernel) (by decide +kernel)
theorem cd_L_virtualTime : Cond.codeWith yL_virtualTime cL_virtualTime 4 (some .int) [(0, 8, 11, 13)] ∈ lw_all := lw_mem (i := 429) (by decide +kernel) (by decide +kernel)
theorem cd_L_runTicks : Cond.codeWith yL_runTicks cL_runTicks 4 (some .int) [(0, 9, 12, 13)] ∈ lw_all := lw_mem (i := 436) (by decide +kernel) (by decide +kernel)
theorem cd_L_waitTicks : Cond.codeWith yL_waitTicks cL_waitTicks 4 (some .int) [(0, 9, 12, 13)] ∈ lw_all := lw_mem (i := 443) (by decide +kernel) (by decide +kernel)
theorem cd_L_share : Cond.codeWith yL_share cL_share 4 (some .int) [(0, 8, 11, 13)] ∈ lw_all := lw_mem (i := 450) (by decide +kernel) (by decide +kernel)
theorem cd_L_runningTask : Cond.codeWith yL_runningTask cL_runningTask 4 (some .int) [(0, 9, 12, 13)] ∈ lw_all := lw_mem (i := 457) (by decide +kernel) (by decide +kernel)
theorem cd_L_coreCookie : Cond.codeWith yL_coreCookie cL_coreCookie 4 (some .int) [(0, 9, 12, 13)] ∈ lw_all := lw_mem (i := 464) (by decide +kernel) (by decide +kernel)
theorem cd_L_leaderOf : Cond.codeWith yL_leaderOf cL_leaderOf 4 (some .int) [(0, 9, 12, 13)] ∈ lw_all := lw_mem (i := 476) (by decide +kernel) (by decide +kernel)
theorem cd_L_queueLength : Cond.codeWith yL_queueLength cL_queueLength 4 (some .int) [(0, 9, 12, 13)] ∈ lw_all := lw_mem (i := 483) (by decide +kernel) (by decide +kernel)
theorem cd_L_queuedTask : Cond.codeWith yL_queuedTask cL_queuedTask 5 (some .int) [(0, 10, 13, 13), (0, 10, 17, 78)] ∈ lw_all := lw_mem (i := 490) (by decide +kernel) (by decide +kernel)
theorem cd_L_baseOf : Cond.codeWith yL_baseOf cL_baseOf 4 (some .int) [(0, 8, 11, 13)] ∈ lw_all := lw_mem (i := 518) (by decide +kernel) (by decide +kernel)
theorem cd_L_idleTicks : Cond.codeWith yL_idleTicks cL_idleTicks 4 (some .int) [(0, 9, 12, 13)] ∈ lw_all := lw_mem (i := 525) (by decide +kernel) (by decide +kernel)
theorem cd_L_forcedIdleTicks : Cond.codeWith yL_forcedIdleTicks cL_forcedIdleTicks 4 (some .int) [(0, 9, 12, 13)] ∈ lw_all := lw_mem (i := 532) (by decide +kernel) (by decide +kernel)
theorem se_X0_startAnew : Cond.selects RX0 yX0_startAnew yX0_startAnew ∈ lw_all := lw_mem (i := 0) (by decide +kernel) (by decide +kernel)
theorem se_X0_simulateTick : Cond.selects RX0 yX0_simulateTick yX0_simulateTick ∈ lw_all := lw_mem (i := 2) (by decide +kernel) (by decide +kernel)
theorem se_X0_pickForCore : Cond.selects RX0 yX0_pickForCore yX0_pickForCore ∈ lw_all := lw_mem (i := 3) (by decide +kernel) (by decide +kernel)
theorem se_X0_findLeader : Cond.selects RX0 yX0_findLeader yX0_findLeader ∈ lw_all := lw_mem (i := 4) (by decide +kernel) (by decide +kernel)
theorem se_X0_isRunnable : Cond.selects RX0 yX0_isRunnable yX0_isRunnable ∈ lw_all := lw_mem (i := 5) (by decide +kernel) (by decide +kernel)
theorem se_X0_isOnCore : Cond.selects RX0 yX0_isOnCore yX0_isOnCore ∈ lw_all := lw_mem (i := 6) (by decide +kernel) (by decide +kernel)
theorem se_X0_comesBefore : Cond.selects RX0 yX0_comesBefore yX0_comesBefore ∈ lw_all := lw_mem (i := 7) (by decide +kernel) (by decide +kernel)
theorem se_X0_relativeTime : Cond.selects RX0 yX0_relativeTime yX0_relativeTime ∈ lw_all := lw_mem (i := 8) (by decide +kernel) (by decide +kernel)
theorem se_X0_releaseTasks : Cond.selects RX0 yX0_releaseTasks yX0_releaseTasks ∈ lw_all := lw_mem (i := 9) (by decide +kernel) (by decide +kernel)
theorem se_X0_takeTask : Cond.selects RX0 yX0_takeTask yX0_takeTask ∈ lw_all := lw_mem (i := 10) (by decide +kernel) (by decide +kernel)
theorem se_X0_findOwn : Cond.selects RX0 yX0_findOwn yX0_findOwn ∈ lw_all := lw_mem (i := 11) (by decide +kernel) (by decide +kernel)
theorem se_X0_isQueued : Cond.selects RX0 yX0_isQueued yX0_isQueued ∈ lw_all := lw_mem (i := 12) (by decide +kernel) (by decide +kernel)
theorem se_X0_findLoot : Cond.selects RX0 yX0_findLoot yX0_findLoot ∈ lw_all := lw_mem (i := 13) (by decide +kernel) (by decide +kernel)
theorem se_X0_isLoot : Cond.selects RX0 yX0_isLoot yX0_isLoot ∈ lw_all := lw_mem (i := 14) (by decide +kernel) (by decide +kernel)
theorem se_X0_moveRunnable : Cond.selects RX0 yX0_moveRunnable yX0_moveRunnable ∈ lw_all := lw_mem (i := 15) (by decide +kernel) (by decide +kernel)
theorem se_X0_giveToCpu : Cond.selects RX0 yX0_giveToCpu yX0_giveToCpu ∈ lw_all := lw_mem (i := 16) (by decide +kernel) (by decide +kernel)
theorem se_X0_countQueue : Cond.selects RX0 yX0_countQueue yX0_countQueue ∈ lw_all := lw_mem (i := 17) (by decide +kernel) (by decide +kernel)
theorem se_X0_chargeTasks : Cond.selects RX0 yX0_chargeTasks yX0_chargeTasks ∈ lw_all := lw_mem (i := 18) (by decide +kernel) (by decide +kernel)
theorem se_X0_countIdleCpus : Cond.selects RX0 yX0_countIdleCpus yX0_countIdleCpus ∈ lw_all := lw_mem (i := 19) (by decide +kernel) (by decide +kernel)
theorem se_X0_cpuTotal : Cond.selects RX0 yX0_cpuTotal yX0_cpuTotal ∈ lw_all := lw_mem (i := 20) (by decide +kernel) (by decide +kernel)
theorem se_X0_raiseBases : Cond.selects RX0 yX0_raiseBases yX0_raiseBases ∈ lw_all := lw_mem (i := 21) (by decide +kernel) (by decide +kernel)
theorem se_X0_findLeastTime : Cond.selects RX0 yX0_findLeastTime yX0_findLeastTime ∈ lw_all := lw_mem (i := 22) (by decide +kernel) (by decide +kernel)
theorem se_X0_checkCpu : Cond.selects RX0 yX0_checkCpu yX0_checkCpu ∈ lw_all := lw_mem (i := 23) (by decide +kernel) (by decide +kernel)
theorem se_X0_enterQueue : Cond.selects RX0 yX0_enterQueue yX0_enterQueue ∈ lw_all := lw_mem (i := 24) (by decide +kernel) (by decide +kernel)
theorem se_X0_checkTask : Cond.selects RX0 yX0_checkTask yX0_checkTask ∈ lw_all := lw_mem (i := 25) (by decide +kernel) (by decide +kernel)
theorem se_X0_stopTask : Cond.selects RX0 yX0_stopTask yX0_stopTask ∈ lw_all := lw_mem (i := 26) (by decide +kernel) (by decide +kernel)
theorem se_X0_checkNotExited : Cond.selects RX0 yX0_checkNotExited yX0_checkNotExited ∈ lw_all := lw_mem (i := 27) (by decide +kernel) (by decide +kernel)
theorem se_X0_checkCore : Cond.selects RX0 yX0_checkCore yX0_checkCore ∈ lw_all := lw_mem (i := 28) (by decide +kernel) (by decide +kernel)
theorem se_X0_positionOf : Cond.selects RX0 yX0_positionOf yX0_positionOf ∈ lw_all := lw_mem (i := 29) (by decide +kernel) (by decide +kernel)
theorem se_X1_begins : Cond.selects RX1 yX1_begins yX1_begins ∈ lw_all := lw_mem (i := 30) (by decide +kernel) (by decide +kernel)
theorem se_X1_isRefused : Cond.selects RX1 yX1_isRefused yX1_isRefused ∈ lw_all := lw_mem (i := 31) (by decide +kernel) (by decide +kernel)
theorem se_X1_tickOne : Cond.selects RX1 yX1_tickOne yX1_tickOne ∈ lw_all := lw_mem (i := 32) (by decide +kernel) (by decide +kernel)
theorem se_X1_picks : Cond.selects RX1 yX1_picks yX1_picks ∈ lw_all := lw_mem (i := 33) (by decide +kernel) (by decide +kernel)
theorem se_X1_leader : Cond.selects RX1 yX1_leader yX1_leader ∈ lw_all := lw_mem (i := 34) (by decide +kernel) (by decide +kernel)
theorem se_X1_isRunnable : Cond.selects RX1 yX1_isRunnable yX1_isRunnable ∈ lw_all := lw_mem (i := 35) (by decide +kernel) (by decide +kernel)
theorem se_X1_isAhead : Cond.selects RX1 yX1_isAhead yX1_isAhead ∈ lw_all := lw_mem (i := 36) (by decide +kernel) (by decide +kernel)
theorem se_X1_relative : Cond.selects RX1 yX1_relative yX1_relative ∈ lw_all := lw_mem (i := 37) (by decide +kernel) (by decide +kernel)
theorem se_X1_firstOf : Cond.selects RX1 yX1_firstOf yX1_firstOf ∈ lw_all := lw_mem (i := 38) (by decide +kernel) (by decide +kernel)
theorem se_X1_toSteal : Cond.selects RX1 yX1_toSteal yX1_toSteal ∈ lw_all := lw_mem (i := 39) (by decide +kernel) (by decide +kernel)
theorem se_X1_goesTo : Cond.selects RX1 yX1_goesTo yX1_goesTo ∈ lw_all := lw_mem (i := 40) (by decide +kernel) (by decide +kernel)
theorem se_X1_queued : Cond.selects RX1 yX1_queued yX1_queued ∈ lw_all := lw_mem (i := 41) (by decide +kernel) (by decide +kernel)
theorem se_X1_noCpu : Cond.selects RX1 yX1_noCpu yX1_noCpu ∈ lw_all := lw_mem (i := 42) (by decide +kernel) (by decide +kernel)
theorem se_X1_noTask : Cond.selects RX1 yX1_noTask yX1_noTask ∈ lw_all := lw_mem (i := 43) (by decide +kernel) (by decide +kernel)
theorem se_X1_becomes : Cond.selects RX1 yX1_becomes yX1_becomes ∈ lw_all := lw_mem (i := 44) (by decide +kernel) (by decide +kernel)
theorem se_X1_hasExited : Cond.selects RX1 yX1_hasExited yX1_hasExited ∈ lw_all := lw_mem (i := 45) (by decide +kernel) (by decide +kernel)
theorem se_X1_noCore : Cond.selects RX1 yX1_noCore yX1_noCore ∈ lw_all := lw_mem (i := 46) (by decide +kernel) (by decide +kernel)
theorem se_X0_setStealing : Cond.selects RX0 yX0_setStealing yX0_setStealing ∈ lw_all := lw_mem (i := 126) (by decide +kernel) (by decide +kernel)
theorem se_X0_taskCount : Cond.selects RX0 yX0_taskCount yX0_taskCount ∈ lw_all := lw_mem (i := 130) (by decide +kernel) (by decide +kernel)
theorem se_X0_stolenTasks : Cond.selects RX0 yX0_stolenTasks yX0_stolenTasks ∈ lw_all := lw_mem (i := 134) (by decide +kernel) (by decide +kernel)
theorem se_X0_reset : Cond.selects RX0 yX0_reset yX0_reset ∈ lw_all := lw_mem (i := 142) (by decide +kernel) (by decide +kernel)
theorem se_X0_tick : Cond.selects RX0 yX0_tick yX0_tick ∈ lw_all := lw_mem (i := 217) (by decide +kernel) (by decide +kernel)
theorem se_X0_createTask : Cond.selects RX0 yX0_createTask yX0_createTask ∈ lw_all := lw_mem (i := 319) (by decide +kernel) (by decide +kernel)
theorem se_X0_sleep : Cond.selects RX0 yX0_sleep yX0_sleep ∈ lw_all := lw_mem (i := 359) (by decide +kernel) (by decide +kernel)
theorem se_X0_wake : Cond.selects RX0 yX0_wake yX0_wake ∈ lw_all := lw_mem (i := 376) (by decide +kernel) (by decide +kernel)
theorem se_X0_exit : Cond.selects RX0 yX0_exit yX0_exit ∈ lw_all := lw_mem (i := 384) (by decide +kernel) (by decide +kernel)
theorem se_X0_setWeight : Cond.selects RX0 yX0_setWeight yX0_setWeight ∈ lw_all := lw_mem (i := 396) (by decide +kernel) (by decide +kernel)
theorem se_X0_setCookie : Cond.selects RX0 yX0_setCookie yX0_setCookie ∈ lw_all := lw_mem (i := 403) (by decide +kernel) (by decide +kernel)
theorem se_X0_moveTask : Cond.selects RX0 yX0_moveTask yX0_moveTask ∈ lw_all := lw_mem (i := 410) (by decide +kernel) (by decide +kernel)
theorem se_X0_stateOf : Cond.selects RX0 yX0_stateOf yX0_stateOf ∈ lw_all := lw_mem (i := 418) (by decide +kernel) (by decide +kernel)
theorem se_X0_cpuOf : Cond.selects RX0 yX0_cpuOf yX0_cpuOf ∈ lw_all := lw_mem (i := 425) (by decide +kernel) (by decide +kernel)
theorem se_X0_virtualTime : Cond.selects RX0 yX0_virtualTime yX0_virtualTime ∈ lw_all := lw_mem (i := 432) (by decide +kernel) (by decide +kernel)
theorem se_X0_runTicks : Cond.selects RX0 yX0_runTicks yX0_runTicks ∈ lw_all := lw_mem (i := 439) (by decide +kernel) (by decide +kernel)
theorem se_X0_waitTicks : Cond.selects RX0 yX0_waitTicks yX0_waitTicks ∈ lw_all := lw_mem (i := 446) (by decide +kernel) (by decide +kernel)
theorem se_X0_share : Cond.selects RX0 yX0_share yX0_share ∈ lw_all := lw_mem (i := 453) (by decide +kernel) (by decide +kernel)
theorem se_X0_runningTask : Cond.selects RX0 yX0_runningTask yX0_runningTask ∈ lw_all := lw_mem (i := 460) (by decide +kernel) (by decide +kernel)
theorem se_X0_coreCookie : Cond.selects RX0 yX0_coreCookie yX0_coreCookie ∈ lw_all := lw_mem (i := 467) (by decide +kernel) (by decide +kernel)
theorem se_X0_leaderOf : Cond.selects RX0 yX0_leaderOf yX0_leaderOf ∈ lw_all := lw_mem (i := 479) (by decide +kernel) (by decide +kernel)
theorem se_X0_queueLength : Cond.selects RX0 yX0_queueLength yX0_queueLength ∈ lw_all := lw_mem (i := 486) (by decide +kernel) (by decide +kernel)
theorem se_X0_queuedTask : Cond.selects RX0 yX0_queuedTask yX0_queuedTask ∈ lw_all := lw_mem (i := 494) (by decide +kernel) (by decide +kernel)
theorem se_X0_baseOf : Cond.selects RX0 yX0_baseOf yX0_baseOf ∈ lw_all := lw_mem (i := 521) (by decide +kernel) (by decide +kernel)
theorem se_X0_idleTicks : Cond.selects RX0 yX0_idleTicks yX0_idleTicks ∈ lw_all := lw_mem (i := 528) (by decide +kernel) (by decide +kernel)
theorem se_X0_forcedIdleTicks : Cond.selects RX0 yX0_forcedIdleTicks yX0_forcedIdleTicks ∈ lw_all := lw_mem (i := 535) (by decide +kernel) (by decide +kernel)
theorem se_X1_thrown : Cond.selects RX1 yX1_thrown yX1_thrown ∈ lw_all := lw_mem (i := 604) (by decide +kernel) (by decide +kernel)
theorem se_X1_reset : Cond.selects RX1 yX1_reset yX1_reset ∈ lw_all := lw_mem (i := 608) (by decide +kernel) (by decide +kernel)
theorem se_X1_setStealing : Cond.selects RX1 yX1_setStealing yX1_setStealing ∈ lw_all := lw_mem (i := 620) (by decide +kernel) (by decide +kernel)
theorem se_X1_tick : Cond.selects RX1 yX1_tick yX1_tick ∈ lw_all := lw_mem (i := 624) (by decide +kernel) (by decide +kernel)
theorem se_X1_createTask : Cond.selects RX1 yX1_createTask yX1_createTask ∈ lw_all := lw_mem (i := 669) (by decide +kernel) (by decide +kernel)
theorem se_X1_sleep : Cond.selects RX1 yX1_sleep yX1_sleep ∈ lw_all := lw_mem (i := 685) (by decide +kernel) (by decide +kernel)
theorem se_X1_wake : Cond.selects RX1 yX1_wake yX1_wake ∈ lw_all := lw_mem (i := 697) (by decide +kernel) (by decide +kernel)
theorem se_X1_exit : Cond.selects RX1 yX1_exit yX1_exit ∈ lw_all := lw_mem (i := 701) (by decide +kernel) (by decide +kernel)
theorem se_X1_setWeight : Cond.selects RX1 yX1_setWeight yX1_setWeight ∈ lw_all := lw_mem (i := 709) (by decide +kernel) (by decide +kernel)
theorem se_X1_setCookie : Cond.selects RX1 yX1_setCookie yX1_setCookie ∈ lw_all := lw_mem (i := 713) (by decide +kernel) (by decide +kernel)
theorem se_X1_moveTask : Cond.selects RX1 yX1_moveTask yX1_moveTask ∈ lw_all := lw_mem (i := 717) (by decide +kernel) (by decide +kernel)
theorem se_X1_taskCount : Cond.selects RX1 yX1_taskCount yX1_taskCount ∈ lw_all := lw_mem (i := 721) (by decide +kernel) (by decide +kernel)
theorem se_X1_stateOf : Cond.selects RX1 yX1_stateOf yX1_stateOf ∈ lw_all := lw_mem (i := 725) (by decide +kernel) (by decide +kernel)
theorem se_X1_cpuOf : Cond.selects RX1 yX1_cpuOf yX1_cpuOf ∈ lw_all := lw_mem (i := 729) (by decide +kernel) (by decide +kernel)
theorem se_X1_virtualTime : Cond.selects RX1 yX1_virtualTime yX1_virtualTime ∈ lw_all := lw_mem (i := 733) (by decide +kernel) (by decide +kernel)
theorem se_X1_runTicks : Cond.selects RX1 yX1_runTicks yX1_runTicks ∈ lw_all := lw_mem (i := 737) (by decide +kernel) (by decide +kernel)
theorem se_X1_waitTicks : Cond.selects RX1 yX1_waitTicks yX1_waitTicks ∈ lw_all := lw_mem (i := 741) (by decide +kernel) (by decide +kernel)
theorem se_X1_share : Cond.selects RX1 yX1_share yX1_share ∈ lw_all := lw_mem (i := 745) (by decide +kernel) (by decide +kernel)
theorem se_X1_runningTask : Cond.selects RX1 yX1_runningTask yX1_runningTask ∈ lw_all := lw_mem (i := 749) (by decide +kernel) (by decide +kernel)
theorem se_X1_coreCookie : Cond.selects RX1 yX1_coreCookie yX1_coreCookie ∈ lw_all := lw_mem (i := 753) (by decide +kernel) (by decide +kernel)
theorem se_X1_leaderOf : Cond.selects RX1 yX1_leaderOf yX1_leaderOf ∈ lw_all := lw_mem (i := 761) (by decide +kernel) (by decide +kernel)
theorem se_X1_queueLength : Cond.selects RX1 yX1_queueLength yX1_queueLength ∈ lw_all := lw_mem (i := 765) (by decide +kernel) (by decide +kernel)
theorem se_X1_queuedTask : Cond.selects RX1 yX1_queuedTask yX1_queuedTask ∈ lw_all := lw_mem (i := 769) (by decide +kernel) (by decide +kernel)
theorem se_X1_baseOf : Cond.selects RX1 yX1_baseOf yX1_baseOf ∈ lw_all := lw_mem (i := 773) (by decide +kernel) (by decide +kernel)
theorem se_X1_idleTicks : Cond.selects RX1 yX1_idleTicks yX1_idleTicks ∈ lw_all := lw_mem (i := 777) (by decide +kernel) (by decide +kernel)
theorem se_X1_forcedIdleTicks : Cond.selects RX1 yX1_forcedIdleTicks yX1_forcedIdleTicks ∈ lw_all := lw_mem (i := 781) (by decide +kernel) (by decide +kernel)
theorem se_X1_stolenTasks : Cond.selects RX1 yX1_stolenTasks yX1_stolenTasks ∈ lw_all := lw_mem (i := 785) (by decide +kernel) (by decide +kernel)
theorem ml_L_89 : Cond.methodLink RL 89 yX0_init ∈ lw_all := lw_mem (i := 59) (by decide +kernel) (by decide +kernel)
theorem ml_X0_51 : Cond.methodLink RX0 51 yX0_startAnew ∈ lw_all := lw_mem (i := 65) (by decide +kernel) (by decide +kernel)
theorem gw_X0_51 : GoodIn lw_all (wsV RX0 51 RX0 yX0_startAnew (ws_ yX0_startAnew cX0_startAnew 3 none)) := gw_V ml_X0_51 im_X0_startAnew se_X0_startAnew ini_X0 cd_X0_startAnew
theorem ml_L_103 : Cond.methodLink RL 103 yX0_setStealing ∈ lw_all := lw_mem (i := 124) (by decide +kernel) (by decide +kernel)
theorem gw_L_103 : GoodIn lw_all (wsV RL 103 RX0 yX0_setStealing (ws_ yX0_setStealing cX0_setStealing 3 (some .boolean))) := gw_V ml_L_103 im_X0_setStealing se_X0_setStealing ini_X0 cd_X0_setStealing
theorem ml_L_134 : Cond.methodLink RL 134 yX0_taskCount ∈ lw_all := lw_mem (i := 128) (by decide +kernel) (by decide +kernel)
theorem gw_L_134 : GoodIn lw_all (wsV RL 134 RX0 yX0_taskCount (ws_ yX0_taskCount cX0_taskCount 1 (some .int))) := gw_V ml_L_134 im_X0_taskCount se_X0_taskCount ini_X0 cd_X0_taskCount
theorem ml_L_181 : Cond.methodLink RL 181 yX0_stolenTasks ∈ lw_all := lw_mem (i := 132) (by decide +kernel) (by decide +kernel)
theorem gw_L_181 : GoodIn lw_all (wsV RL 181 RX0 yX0_stolenTasks (ws_ yX0_stolenTasks cX0_stolenTasks 1 (some .int))) := gw_V ml_L_181 im_X0_stolenTasks se_X0_stolenTasks ini_X0 cd_X0_stolenTasks
theorem ml_L_93 : Cond.methodLink RL 93 yL_reset ∈ lw_all := lw_mem (i := 136) (by decide +kernel) (by decide +kernel)
theorem ml_L_7 : Cond.methodLink RL 7 yX0_reset ∈ lw_all := lw_mem (i := 140) (by decide +kernel) (by decide +kernel)
theorem gw_L_7 : GoodIn lw_all (wsV RL 7 RX0 yX0_reset (ws_ yX0_reset cX0_reset 3 (some .int))) := gw_V ml_L_7 im_X0_reset se_X0_reset ini_X0 cd_X0_reset
theorem ml_L_108 : Cond.methodLink RL 108 yL_tick ∈ lw_all := lw_mem (i := 212) (by decide +kernel) (by decide +kernel)
theorem ml_L_15 : Cond.methodLink RL 15 yX0_tick ∈ lw_all := lw_mem (i := 215) (by decide +kernel) (by decide +kernel)
theorem gw_L_15 : GoodIn lw_all (wsV RL 15 RX0 yX0_tick (ws_ yX0_tick cX0_tick 4 (some .int))) := gw_V ml_L_15 im_X0_tick se_X0_tick ini_X0 cd_X0_tick
theorem ml_X0_72 : Cond.methodLink RX0 72 yX0_simulateTick ∈ lw_all := lw_mem (i := 220) (by decide +kernel) (by decide +kernel)
theorem gw_X0_72 : GoodIn lw_all (wsV RX0 72 RX0 yX0_simulateTick (ws_ yX0_simulateTick cX0_simulateTick 2 (some .int))) := gw_V ml_X0_72 im_X0_simulateTick se_X0_simulateTick ini_X0 cd_X0_simulateTick
theorem ml_X0_198 : Cond.methodLink RX0 198 yX0_pickForCore ∈ lw_all := lw_mem (i := 224) (by decide +kernel) (by decide +kernel)
theorem gw_X0_198 : GoodIn lw_all (wsV RX0 198 RX0 yX0_pickForCore (ws_ yX0_pickForCore cX0_pickForCore 7 none)) := gw_V ml_X0_198 im_X0_pickForCore se_X0_pickForCore ini_X0 cd_X0_pickForCore
theorem ml_X0_123 : Cond.methodLink RX0 123 yX0_findLeader ∈ lw_all := lw_mem (i := 228) (by decide +kernel) (by decide +kernel)
theorem gw_X0_123 : GoodIn lw_all (wsV RX0 123 RX0 yX0_findLeader (ws_ yX0_findLeader cX0_findLeader 4 (some .int))) := gw_V ml_X0_123 im_X0_findLeader se_X0_findLeader ini_X0 cd_X0_findLeader
theorem ml_X0_99 : Cond.methodLink RX0 99 yX0_isRunnable ∈ lw_all := lw_mem (i := 232) (by decide +kernel) (by decide +kernel)
theorem gw_X0_99 : GoodIn lw_all (wsV RX0 99 RX0 yX0_isRunnable (ws_ yX0_isRunnable cX0_isRunnable 2 (some .boolean))) := gw_V ml_X0_99 im_X0_isRunnable se_X0_isRunnable ini_X0 cd_X0_isRunnable
theorem ml_X0_185 : Cond.methodLink RX0 185 yX0_isOnCore ∈ lw_all := lw_mem (i := 236) (by decide +kernel) (by decide +kernel)
theorem gw_X0_185 : GoodIn lw_all (wsV RX0 185 RX0 yX0_isOnCore (ws_ yX0_isOnCore cX0_isOnCore 3 (some .boolean))) := gw_V ml_X0_185 im_X0_isOnCore se_X0_isOnCore ini_X0 cd_X0_isOnCore
theorem ml_X0_160 : Cond.methodLink RX0 160 yX0_coreOfCpu ∈ lw_all := lw_mem (i := 240) (by decide +kernel) (by decide +kernel)
theorem gw_X0_160 : GoodIn lw_all (va_wsS RX0 160 yX0_coreOfCpu (ws_ yX0_coreOfCpu cX0_coreOfCpu 1 (some .int))) := gw_S ml_X0_160 st_X0_coreOfCpu ini_X0 cd_X0_coreOfCpu
theorem ml_X0_167 : Cond.methodLink RX0 167 yX0_comesBefore ∈ lw_all := lw_mem (i := 243) (by decide +kernel) (by decide +kernel)
theorem gw_X0_167 : GoodIn lw_all (wsV RX0 167 RX0 yX0_comesBefore (ws_ yX0_comesBefore cX0_comesBefore 7 (some .boolean))) := gw_V ml_X0_167 im_X0_comesBefore se_X0_comesBefore ini_X0 cd_X0_comesBefore
theorem ml_X0_163 : Cond.methodLink RX0 163 yX0_relativeTime ∈ lw_all := lw_mem (i := 247) (by decide +kernel) (by decide +kernel)
theorem gw_X0_163 : GoodIn lw_all (wsV RX0 163 RX0 yX0_relativeTime (ws_ yX0_relativeTime cX0_relativeTime 2 (some .long))) := gw_V ml_X0_163 im_X0_relativeTime se_X0_relativeTime ini_X0 cd_X0_relativeTime
theorem ml_X0_176 : Cond.methodLink RX0 176 yX0_releaseTasks ∈ lw_all := lw_mem (i := 251) (by decide +kernel) (by decide +kernel)
theorem gw_X0_176 : GoodIn lw_all (wsV RX0 176 RX0 yX0_releaseTasks (ws_ yX0_releaseTasks cX0_releaseTasks 3 none)) := gw_V ml_X0_176 im_X0_releaseTasks se_X0_releaseTasks ini_X0 cd_X0_releaseTasks
theorem ml_X0_179 : Cond.methodLink RX0 179 yX0_takeTask ∈ lw_all := lw_mem (i := 255) (by decide +kernel) (by decide +kernel)
theorem gw_X0_179 : GoodIn lw_all (wsV RX0 179 RX0 yX0_takeTask (ws_ yX0_takeTask cX0_takeTask 5 (some .int))) := gw_V ml_X0_179 im_X0_takeTask se_X0_takeTask ini_X0 cd_X0_takeTask
theorem ml_X0_188 : Cond.methodLink RX0 188 yX0_findOwn ∈ lw_all := lw_mem (i := 259) (by decide +kernel) (by decide +kernel)
theorem gw_X0_188 : GoodIn lw_all (wsV RX0 188 RX0 yX0_findOwn (ws_ yX0_findOwn cX0_findOwn 5 (some .int))) := gw_V ml_X0_188 im_X0_findOwn se_X0_findOwn ini_X0 cd_X0_findOwn
theorem ml_X0_130 : Cond.methodLink RX0 130 yX0_isQueued ∈ lw_all := lw_mem (i := 263) (by decide +kernel) (by decide +kernel)
theorem gw_X0_130 : GoodIn lw_all (wsV RX0 130 RX0 yX0_isQueued (ws_ yX0_isQueued cX0_isQueued 3 (some .boolean))) := gw_V ml_X0_130 im_X0_isQueued se_X0_isQueued ini_X0 cd_X0_isQueued
theorem ml_X0_191 : Cond.methodLink RX0 191 yX0_findLoot ∈ lw_all := lw_mem (i := 267) (by decide +kernel) (by decide +kernel)
theorem gw_X0_191 : GoodIn lw_all (wsV RX0 191 RX0 yX0_findLoot (ws_ yX0_findLoot cX0_findLoot 5 (some .int))) := gw_V ml_X0_191 im_X0_findLoot se_X0_findLoot ini_X0 cd_X0_findLoot
theorem ml_X0_194 : Cond.methodLink RX0 194 yX0_isLoot ∈ lw_all := lw_mem (i := 271) (by decide +kernel) (by decide +kernel)
theorem gw_X0_194 : GoodIn lw_all (wsV RX0 194 RX0 yX0_isLoot (ws_ yX0_isLoot cX0_isLoot 4 (some .boolean))) := gw_V ml_X0_194 im_X0_isLoot se_X0_isLoot ini_X0 cd_X0_isLoot
theorem ml_X0_116 : Cond.methodLink RX0 116 yX0_moveRunnable ∈ lw_all := lw_mem (i := 275) (by decide +kernel) (by decide +kernel)
theorem gw_X0_116 : GoodIn lw_all (wsV RX0 116 RX0 yX0_moveRunnable (ws_ yX0_moveRunnable cX0_moveRunnable 3 none)) := gw_V ml_X0_116 im_X0_moveRunnable se_X0_moveRunnable ini_X0 cd_X0_moveRunnable
theorem ml_X0_182 : Cond.methodLink RX0 182 yX0_giveToCpu ∈ lw_all := lw_mem (i := 279) (by decide +kernel) (by decide +kernel)
theorem gw_X0_182 : GoodIn lw_all (wsV RX0 182 RX0 yX0_giveToCpu (ws_ yX0_giveToCpu cX0_giveToCpu 3 none)) := gw_V ml_X0_182 im_X0_giveToCpu se_X0_giveToCpu ini_X0 cd_X0_giveToCpu
theorem ml_X0_127 : Cond.methodLink RX0 127 yX0_countQueue ∈ lw_all := lw_mem (i := 283) (by decide +kernel) (by decide +kernel)
theorem gw_X0_127 : GoodIn lw_all (wsV RX0 127 RX0 yX0_countQueue (ws_ yX0_countQueue cX0_countQueue 4 (some .int))) := gw_V ml_X0_127 im_X0_countQueue se_X0_countQueue ini_X0 cd_X0_countQueue
theorem ml_X0_201 : Cond.methodLink RX0 201 yX0_chargeTasks ∈ lw_all := lw_mem (i := 287) (by decide +kernel) (by decide +kernel)
theorem gw_X0_201 : GoodIn lw_all (wsV RX0 201 RX0 yX0_chargeTasks (ws_ yX0_chargeTasks cX0_chargeTasks 3 (some .int))) := gw_V ml_X0_201 im_X0_chargeTasks se_X0_chargeTasks ini_X0 cd_X0_chargeTasks
theorem ml_X0_210 : Cond.methodLink RX0 210 yX0_costOfTick ∈ lw_all := lw_mem (i := 291) (by decide +kernel) (by decide +kernel)
theorem gw_X0_210 : GoodIn lw_all (va_wsS RX0 210 yX0_costOfTick (ws_ yX0_costOfTick cX0_costOfTick 1 (some .int))) := gw_S ml_X0_210 st_X0_costOfTick ini_X0 cd_X0_costOfTick
theorem ml_X0_204 : Cond.methodLink RX0 204 yX0_countIdleCpus ∈ lw_all := lw_mem (i := 294) (by decide +kernel) (by decide +kernel)
theorem gw_X0_204 : GoodIn lw_all (wsV RX0 204 RX0 yX0_countIdleCpus (ws_ yX0_countIdleCpus cX0_countIdleCpus 2 none)) := gw_V ml_X0_204 im_X0_countIdleCpus se_X0_countIdleCpus ini_X0 cd_X0_countIdleCpus
theorem ml_X0_147 : Cond.methodLink RX0 147 yX0_cpuTotal ∈ lw_all := lw_mem (i := 298) (by decide +kernel) (by decide +kernel)
theorem gw_X0_147 : GoodIn lw_all (wsV RX0 147 RX0 yX0_cpuTotal (ws_ yX0_cpuTotal cX0_cpuTotal 1 (some .int))) := gw_V ml_X0_147 im_X0_cpuTotal se_X0_cpuTotal ini_X0 cd_X0_cpuTotal
theorem ml_X0_207 : Cond.methodLink RX0 207 yX0_raiseBases ∈ lw_all := lw_mem (i := 302) (by decide +kernel) (by decide +kernel)
theorem gw_X0_207 : GoodIn lw_all (wsV RX0 207 RX0 yX0_raiseBases (ws_ yX0_raiseBases cX0_raiseBases 3 none)) := gw_V ml_X0_207 im_X0_raiseBases se_X0_raiseBases ini_X0 cd_X0_raiseBases
theorem ml_X0_213 : Cond.methodLink RX0 213 yX0_findLeastTime ∈ lw_all := lw_mem (i := 306) (by decide +kernel) (by decide +kernel)
theorem gw_X0_213 : GoodIn lw_all (wsV RX0 213 RX0 yX0_findLeastTime (ws_ yX0_findLeastTime cX0_findLeastTime 4 (some .int))) := gw_V ml_X0_213 im_X0_findLeastTime se_X0_findLeastTime ini_X0 cd_X0_findLeastTime
theorem ml_X0_170 : Cond.methodLink RX0 170 yJ9_max_f86c9 ∈ lw_all := lw_mem (i := 310) (by decide +kernel) (by decide +kernel)
theorem gw_X0_170 : GoodIn lw_all (va_wsS RX0 170 yJ9_max_f86c9 (ws_ yJ9_max_f86c9 cJ9_max_f86c9 4 (some .long))) := gw_S ml_X0_170 st_J9_max_f86c9 ini_J9 cd_J9_max_f86c9
theorem ml_L_111 : Cond.methodLink RL 111 yL_createTask ∈ lw_all := lw_mem (i := 313) (by decide +kernel) (by decide +kernel)
theorem ml_L_18 : Cond.methodLink RL 18 yX0_createTask ∈ lw_all := lw_mem (i := 317) (by decide +kernel) (by decide +kernel)
theorem gw_L_18 : GoodIn lw_all (wsV RL 18 RX0 yX0_createTask (ws_ yX0_createTask cX0_createTask 5 (some .int))) := gw_V ml_L_18 im_X0_createTask se_X0_createTask ini_X0 cd_X0_createTask
theorem ml_X0_76 : Cond.methodLink RX0 76 yX0_checkCpu ∈ lw_all := lw_mem (i := 321) (by decide +kernel) (by decide +kernel)
theorem gw_X0_76 : GoodIn lw_all (wsV RX0 76 RX0 yX0_checkCpu (ws_ yX0_checkCpu cX0_checkCpu 2 none)) := gw_V ml_X0_76 im_X0_checkCpu se_X0_checkCpu ini_X0 cd_X0_checkCpu
theorem ml_X0_79 : Cond.methodLink RX0 79 yX0_checkWeight ∈ lw_all := lw_mem (i := 326) (by decide +kernel) (by decide +kernel)
theorem gw_X0_79 : GoodIn lw_all (va_wsS RX0 79 yX0_checkWeight (ws_ yX0_checkWeight cX0_checkWeight 1 none)) := gw_S ml_X0_79 st_X0_checkWeight ini_X0 cd_X0_checkWeight
theorem ml_X0_82 : Cond.methodLink RX0 82 yX0_checkCookie ∈ lw_all := lw_mem (i := 330) (by decide +kernel) (by decide +kernel)
theorem gw_X0_82 : GoodIn lw_all (va_wsS RX0 82 yX0_checkCookie (ws_ yX0_checkCookie cX0_checkCookie 1 none)) := gw_S ml_X0_82 st_X0_checkCookie ini_X0 cd_X0_checkCookie
theorem ml_X0_93 : Cond.methodLink RX0 93 yX0_enterQueue ∈ lw_all := lw_mem (i := 350) (by decide +kernel) (by decide +kernel)
theorem gw_X0_93 : GoodIn lw_all (wsV RX0 93 RX0 yX0_enterQueue (ws_ yX0_enterQueue cX0_enterQueue 2 none)) := gw_V ml_X0_93 im_X0_enterQueue se_X0_enterQueue ini_X0 cd_X0_enterQueue
theorem ml_L_115 : Cond.methodLink RL 115 yL_sleep ∈ lw_all := lw_mem (i := 354) (by decide +kernel) (by decide +kernel)
theorem ml_L_24 : Cond.methodLink RL 24 yX0_sleep ∈ lw_all := lw_mem (i := 357) (by decide +kernel) (by decide +kernel)
theorem gw_L_24 : GoodIn lw_all (wsV RL 24 RX0 yX0_sleep (ws_ yX0_sleep cX0_sleep 2 (some .int))) := gw_V ml_L_24 im_X0_sleep se_X0_sleep ini_X0 cd_X0_sleep
theorem ml_X0_96 : Cond.methodLink RX0 96 yX0_checkTask ∈ lw_all := lw_mem (i := 361) (by decide +kernel) (by decide +kernel)
theorem gw_X0_96 : GoodIn lw_all (wsV RX0 96 RX0 yX0_checkTask (ws_ yX0_checkTask cX0_checkTask 2 none)) := gw_V ml_X0_96 im_X0_checkTask se_X0_checkTask ini_X0 cd_X0_checkTask
theorem ml_X0_105 : Cond.methodLink RX0 105 yX0_stopTask ∈ lw_all := lw_mem (i := 367) (by decide +kernel) (by decide +kernel)
theorem gw_X0_105 : GoodIn lw_all (wsV RX0 105 RX0 yX0_stopTask (ws_ yX0_stopTask cX0_stopTask 4 (some .int))) := gw_V ml_X0_105 im_X0_stopTask se_X0_stopTask ini_X0 cd_X0_stopTask
theorem ml_L_118 : Cond.methodLink RL 118 yL_wake ∈ lw_all := lw_mem (i := 371) (by decide +kernel) (by decide +kernel)
theorem ml_L_27 : Cond.methodLink RL 27 yX0_wake ∈ lw_all := lw_mem (i := 374) (by decide +kernel) (by decide +kernel)
theorem gw_L_27 : GoodIn lw_all (wsV RL 27 RX0 yX0_wake (ws_ yX0_wake cX0_wake 2 (some .long))) := gw_V ml_L_27 im_X0_wake se_X0_wake ini_X0 cd_X0_wake
theorem ml_L_121 : Cond.methodLink RL 121 yL_exit ∈ lw_all := lw_mem (i := 379) (by decide +kernel) (by decide +kernel)
theorem ml_L_31 : Cond.methodLink RL 31 yX0_exit ∈ lw_all := lw_mem (i := 382) (by decide +kernel) (by decide +kernel)
theorem gw_L_31 : GoodIn lw_all (wsV RL 31 RX0 yX0_exit (ws_ yX0_exit cX0_exit 2 (some .int))) := gw_V ml_L_31 im_X0_exit se_X0_exit ini_X0 cd_X0_exit
theorem ml_X0_111 : Cond.methodLink RX0 111 yX0_checkNotExited ∈ lw_all := lw_mem (i := 386) (by decide +kernel) (by decide +kernel)
theorem gw_X0_111 : GoodIn lw_all (wsV RX0 111 RX0 yX0_checkNotExited (ws_ yX0_checkNotExited cX0_checkNotExited 2 none)) := gw_V ml_X0_111 im_X0_checkNotExited se_X0_checkNotExited ini_X0 cd_X0_checkNotExited
theorem ml_L_124 : Cond.methodLink RL 124 yL_setWeight ∈ lw_all := lw_mem (i := 391) (by decide +kernel) (by decide +kernel)
theorem ml_L_34 : Cond.methodLink RL 34 yX0_setWeight ∈ lw_all := lw_mem (i := 394) (by decide +kernel) (by decide +kernel)
theorem gw_L_34 : GoodIn lw_all (wsV RL 34 RX0 yX0_setWeight (ws_ yX0_setWeight cX0_setWeight 4 (some .int))) := gw_V ml_L_34 im_X0_setWeight se_X0_setWeight ini_X0 cd_X0_setWeight
theorem ml_L_128 : Cond.methodLink RL 128 yL_setCookie ∈ lw_all := lw_mem (i := 398) (by decide +kernel) (by decide +kernel)
theorem ml_L_38 : Cond.methodLink RL 38 yX0_setCookie ∈ lw_all := lw_mem (i := 401) (by decide +kernel) (by decide +kernel)
theorem gw_L_38 : GoodIn lw_all (wsV RL 38 RX0 yX0_setCookie (ws_ yX0_setCookie cX0_setCookie 4 (some .int))) := gw_V ml_L_38 im_X0_setCookie se_X0_setCookie ini_X0 cd_X0_setCookie
theorem ml_L_131 : Cond.methodLink RL 131 yL_moveTask ∈ lw_all := lw_mem (i := 405) (by decide +kernel) (by decide +kernel)
theorem ml_L_41 : Cond.methodLink RL 41 yX0_moveTask ∈ lw_all := lw_mem (i := 408) (by decide +kernel) (by decide +kernel)
theorem gw_L_41 : GoodIn lw_all (wsV RL 41 RX0 yX0_moveTask (ws_ yX0_moveTask cX0_moveTask 4 (some .int))) := gw_V ml_L_41 im_X0_moveTask se_X0_moveTask ini_X0 cd_X0_moveTask
theorem ml_L_138 : Cond.methodLink RL 138 yL_stateOf ∈ lw_all := lw_mem (i := 413) (by decide +kernel) (by decide +kernel)
theorem ml_L_44 : Cond.methodLink RL 44 yX0_stateOf ∈ lw_all := lw_mem (i := 416) (by decide +kernel) (by decide +kernel)
theorem gw_L_44 : GoodIn lw_all (wsV RL 44 RX0 yX0_stateOf (ws_ yX0_stateOf cX0_stateOf 2 (some .int))) := gw_V ml_L_44 im_X0_stateOf se_X0_stateOf ini_X0 cd_X0_stateOf
theorem ml_L_141 : Cond.methodLink RL 141 yL_cpuOf ∈ lw_all := lw_mem (i := 420) (by decide +kernel) (by decide +kernel)
theorem ml_L_47 : Cond.methodLink RL 47 yX0_cpuOf ∈ lw_all := lw_mem (i := 423) (by decide +kernel) (by decide +kernel)
theorem gw_L_47 : GoodIn lw_all (wsV RL 47 RX0 yX0_cpuOf (ws_ yX0_cpuOf cX0_cpuOf 2 (some .int))) := gw_V ml_L_47 im_X0_cpuOf se_X0_cpuOf ini_X0 cd_X0_cpuOf
theorem ml_L_144 : Cond.methodLink RL 144 yL_virtualTime ∈ lw_all := lw_mem (i := 427) (by decide +kernel) (by decide +kernel)
theorem ml_L_50 : Cond.methodLink RL 50 yX0_virtualTime ∈ lw_all := lw_mem (i := 430) (by decide +kernel) (by decide +kernel)
theorem gw_L_50 : GoodIn lw_all (wsV RL 50 RX0 yX0_virtualTime (ws_ yX0_virtualTime cX0_virtualTime 2 (some .long))) := gw_V ml_L_50 im_X0_virtualTime se_X0_virtualTime ini_X0 cd_X0_virtualTime
theorem ml_L_147 : Cond.methodLink RL 147 yL_runTicks ∈ lw_all := lw_mem (i := 434) (by decide +kernel) (by decide +kernel)
theorem ml_L_53 : Cond.methodLink RL 53 yX0_runTicks ∈ lw_all := lw_mem (i := 437) (by decide +kernel) (by decide +kernel)
theorem gw_L_53 : GoodIn lw_all (wsV RL 53 RX0 yX0_runTicks (ws_ yX0_runTicks cX0_runTicks 2 (some .int))) := gw_V ml_L_53 im_X0_runTicks se_X0_runTicks ini_X0 cd_X0_runTicks
theorem ml_L_150 : Cond.methodLink RL 150 yL_waitTicks ∈ lw_all := lw_mem (i := 441) (by decide +kernel) (by decide +kernel)
theorem ml_L_56 : Cond.methodLink RL 56 yX0_waitTicks ∈ lw_all := lw_mem (i := 444) (by decide +kernel) (by decide +kernel)
theorem gw_L_56 : GoodIn lw_all (wsV RL 56 RX0 yX0_waitTicks (ws_ yX0_waitTicks cX0_waitTicks 2 (some .int))) := gw_V ml_L_56 im_X0_waitTicks se_X0_waitTicks ini_X0 cd_X0_waitTicks
theorem ml_L_153 : Cond.methodLink RL 153 yL_share ∈ lw_all := lw_mem (i := 448) (by decide +kernel) (by decide +kernel)
theorem ml_L_59 : Cond.methodLink RL 59 yX0_share ∈ lw_all := lw_mem (i := 451) (by decide +kernel) (by decide +kernel)
theorem gw_L_59 : GoodIn lw_all (wsV RL 59 RX0 yX0_share (ws_ yX0_share cX0_share 6 (some .double))) := gw_V ml_L_59 im_X0_share se_X0_share ini_X0 cd_X0_share
theorem ml_L_157 : Cond.methodLink RL 157 yL_runningTask ∈ lw_all := lw_mem (i := 455) (by decide +kernel) (by decide +kernel)
theorem ml_L_63 : Cond.methodLink RL 63 yX0_runningTask ∈ lw_all := lw_mem (i := 458) (by decide +kernel) (by decide +kernel)
theorem gw_L_63 : GoodIn lw_all (wsV RL 63 RX0 yX0_runningTask (ws_ yX0_runningTask cX0_runningTask 2 (some .int))) := gw_V ml_L_63 im_X0_runningTask se_X0_runningTask ini_X0 cd_X0_runningTask
theorem ml_L_160 : Cond.methodLink RL 160 yL_coreCookie ∈ lw_all := lw_mem (i := 462) (by decide +kernel) (by decide +kernel)
theorem ml_L_66 : Cond.methodLink RL 66 yX0_coreCookie ∈ lw_all := lw_mem (i := 465) (by decide +kernel) (by decide +kernel)
theorem gw_L_66 : GoodIn lw_all (wsV RL 66 RX0 yX0_coreCookie (ws_ yX0_coreCookie cX0_coreCookie 2 (some .int))) := gw_V ml_L_66 im_X0_coreCookie se_X0_coreCookie ini_X0 cd_X0_coreCookie
theorem ml_X0_120 : Cond.methodLink RX0 120 yX0_checkCore ∈ lw_all := lw_mem (i := 469) (by decide +kernel) (by decide +kernel)
theorem gw_X0_120 : GoodIn lw_all (wsV RX0 120 RX0 yX0_checkCore (ws_ yX0_checkCore cX0_checkCore 2 none)) := gw_V ml_X0_120 im_X0_checkCore se_X0_checkCore ini_X0 cd_X0_checkCore
theorem ml_L_163 : Cond.methodLink RL 163 yL_leaderOf ∈ lw_all := lw_mem (i := 474) (by decide +kernel) (by decide +kernel)
theorem ml_L_69 : Cond.methodLink RL 69 yX0_leaderOf ∈ lw_all := lw_mem (i := 477) (by decide +kernel) (by decide +kernel)
theorem gw_L_69 : GoodIn lw_all (wsV RL 69 RX0 yX0_leaderOf (ws_ yX0_leaderOf cX0_leaderOf 2 (some .int))) := gw_V ml_L_69 im_X0_leaderOf se_X0_leaderOf ini_X0 cd_X0_leaderOf
theorem ml_L_166 : Cond.methodLink RL 166 yL_queueLength ∈ lw_all := lw_mem (i := 481) (by decide +kernel) (by decide +kernel)
theorem ml_L_72 : Cond.methodLink RL 72 yX0_queueLength ∈ lw_all := lw_mem (i := 484) (by decide +kernel) (by decide +kernel)
theorem gw_L_72 : GoodIn lw_all (wsV RL 72 RX0 yX0_queueLength (ws_ yX0_queueLength cX0_queueLength 2 (some .int))) := gw_V ml_L_72 im_X0_queueLength se_X0_queueLength ini_X0 cd_X0_queueLength
theorem ml_L_169 : Cond.methodLink RL 169 yL_queuedTask ∈ lw_all := lw_mem (i := 488) (by decide +kernel) (by decide +kernel)
theorem ml_L_75 : Cond.methodLink RL 75 yX0_queuedTask ∈ lw_all := lw_mem (i := 492) (by decide +kernel) (by decide +kernel)
theorem gw_L_75 : GoodIn lw_all (wsV RL 75 RX0 yX0_queuedTask (ws_ yX0_queuedTask cX0_queuedTask 4 (some .int))) := gw_V ml_L_75 im_X0_queuedTask se_X0_queuedTask ini_X0 cd_X0_queuedTask
theorem ml_X0_134 : Cond.methodLink RX0 134 yX0_positionOf ∈ lw_all := lw_mem (i := 496) (by decide +kernel) (by decide +kernel)
theorem gw_X0_134 : GoodIn lw_all (wsV RX0 134 RX0 yX0_positionOf (ws_ yX0_positionOf cX0_positionOf 4 (some .int))) := gw_V ml_X0_134 im_X0_positionOf se_X0_positionOf ini_X0 cd_X0_positionOf
theorem ml_L_172 : Cond.methodLink RL 172 yL_baseOf ∈ lw_all := lw_mem (i := 516) (by decide +kernel) (by decide +kernel)
theorem ml_L_80 : Cond.methodLink RL 80 yX0_baseOf ∈ lw_all := lw_mem (i := 519) (by decide +kernel) (by decide +kernel)
theorem gw_L_80 : GoodIn lw_all (wsV RL 80 RX0 yX0_baseOf (ws_ yX0_baseOf cX0_baseOf 2 (some .long))) := gw_V ml_L_80 im_X0_baseOf se_X0_baseOf ini_X0 cd_X0_baseOf
theorem ml_L_175 : Cond.methodLink RL 175 yL_idleTicks ∈ lw_all := lw_mem (i := 523) (by decide +kernel) (by decide +kernel)
theorem ml_L_83 : Cond.methodLink RL 83 yX0_idleTicks ∈ lw_all := lw_mem (i := 526) (by decide +kernel) (by decide +kernel)
theorem gw_L_83 : GoodIn lw_all (wsV RL 83 RX0 yX0_idleTicks (ws_ yX0_idleTicks cX0_idleTicks 2 (some .int))) := gw_V ml_L_83 im_X0_idleTicks se_X0_idleTicks ini_X0 cd_X0_idleTicks
theorem ml_L_178 : Cond.methodLink RL 178 yL_forcedIdleTicks ∈ lw_all := lw_mem (i := 530) (by decide +kernel) (by decide +kernel)
theorem ml_L_86 : Cond.methodLink RL 86 yX0_forcedIdleTicks ∈ lw_all := lw_mem (i := 533) (by decide +kernel) (by decide +kernel)
theorem gw_L_86 : GoodIn lw_all (wsV RL 86 RX0 yX0_forcedIdleTicks (ws_ yX0_forcedIdleTicks cX0_forcedIdleTicks 2 (some .int))) := gw_V ml_L_86 im_X0_forcedIdleTicks se_X0_forcedIdleTicks ini_X0 cd_X0_forcedIdleTicks
theorem ml_L_92 : Cond.methodLink RL 92 yX1_init ∈ lw_all := lw_mem (i := 539) (by decide +kernel) (by decide +kernel)
theorem ml_X1_55 : Cond.methodLink RX1 55 yX1_begins ∈ lw_all := lw_mem (i := 543) (by decide +kernel) (by decide +kernel)
theorem gw_X1_55 : GoodIn lw_all (wsV RX1 55 RX1 yX1_begins (ws_ yX1_begins cX1_begins 3 none)) := gw_V ml_X1_55 im_X1_begins se_X1_begins ini_X1 cd_X1_begins
theorem ml_L_99 : Cond.methodLink RL 99 yX1_thrown ∈ lw_all := lw_mem (i := 602) (by decide +kernel) (by decide +kernel)
theorem gw_L_99 : GoodIn lw_all (wsV RL 99 RX1 yX1_thrown (ws_ yX1_thrown cX1_thrown 1 (some .int))) := gw_V ml_L_99 im_X1_thrown se_X1_thrown ini_X1 cd_X1_thrown
theorem ml_L_98 : Cond.methodLink RL 98 yX1_reset ∈ lw_all := lw_mem (i := 606) (by decide +kernel) (by decide +kernel)
theorem gw_L_98 : GoodIn lw_all (wsV RL 98 RX1 yX1_reset (ws_ yX1_reset cX1_reset 3 (some .int))) := gw_V ml_L_98 im_X1_reset se_X1_reset ini_X1 cd_X1_reset
theorem ml_X1_72 : Cond.methodLink RX1 72 yX1_in ∈ lw_all := lw_mem (i := 611) (by decide +kernel) (by decide +kernel)
theorem gw_X1_72 : GoodIn lw_all (va_wsS RX1 72 yX1_in (ws_ yX1_in cX1_in 6 (some .boolean))) := gw_S ml_X1_72 st_X1_in ini_X1 cd_X1_in
theorem ml_X1_78 : Cond.methodLink RX1 78 yX1_isRefused ∈ lw_all := lw_mem (i := 614) (by decide +kernel) (by decide +kernel)
theorem gw_X1_78 : GoodIn lw_all (wsV RX1 78 RX1 yX1_isRefused (ws_ yX1_isRefused cX1_isRefused 3 (some .boolean))) := gw_V ml_X1_78 im_X1_isRefused se_X1_isRefused ini_X1 cd_X1_isRefused
theorem ml_L_107 : Cond.methodLink RL 107 yX1_setStealing ∈ lw_all := lw_mem (i := 618) (by decide +kernel) (by decide +kernel)
theorem gw_L_107 : GoodIn lw_all (wsV RL 107 RX1 yX1_setStealing (ws_ yX1_setStealing cX1_setStealing 3 (some .boolean))) := gw_V ml_L_107 im_X1_setStealing se_X1_setStealing ini_X1 cd_X1_setStealing
theorem ml_L_110 : Cond.methodLink RL 110 yX1_tick ∈ lw_all := lw_mem (i := 622) (by decide +kernel) (by decide +kernel)
theorem gw_L_110 : GoodIn lw_all (wsV RL 110 RX1 yX1_tick (ws_ yX1_tick cX1_tick 4 (some .int))) := gw_V ml_L_110 im_X1_tick se_X1_tick ini_X1 cd_X1_tick
theorem ml_X1_117 : Cond.methodLink RX1 117 yX1_tickOne ∈ lw_all := lw_mem (i := 627) (by decide +kernel) (by decide +kernel)
theorem gw_X1_117 : GoodIn lw_all (wsV RX1 117 RX1 yX1_tickOne (ws_ yX1_tickOne cX1_tickOne 5 (some .int))) := gw_V ml_X1_117 im_X1_tickOne se_X1_tickOne ini_X1 cd_X1_tickOne
theorem ml_X1_112 : Cond.methodLink RX1 112 yX1_picks ∈ lw_all := lw_mem (i := 631) (by decide +kernel) (by decide +kernel)
theorem gw_X1_112 : GoodIn lw_all (wsV RX1 112 RX1 yX1_picks (ws_ yX1_picks cX1_picks 5 none)) := gw_V ml_X1_112 im_X1_picks se_X1_picks ini_X1 cd_X1_picks
theorem ml_X1_94 : Cond.methodLink RX1 94 yX1_leader ∈ lw_all := lw_mem (i := 635) (by decide +kernel) (by decide +kernel)
theorem gw_X1_94 : GoodIn lw_all (wsV RX1 94 RX1 yX1_leader (ws_ yX1_leader cX1_leader 4 (some .int))) := gw_V ml_X1_94 im_X1_leader se_X1_leader ini_X1 cd_X1_leader
theorem ml_X1_86 : Cond.methodLink RX1 86 yX1_isRunnable ∈ lw_all := lw_mem (i := 639) (by decide +kernel) (by decide +kernel)
theorem gw_X1_86 : GoodIn lw_all (wsV RX1 86 RX1 yX1_isRunnable (ws_ yX1_isRunnable cX1_isRunnable 2 (some .boolean))) := gw_V ml_X1_86 im_X1_isRunnable se_X1_isRunnable ini_X1 cd_X1_isRunnable
theorem ml_X1_90 : Cond.methodLink RX1 90 yX1_isAhead ∈ lw_all := lw_mem (i := 643) (by decide +kernel) (by decide +kernel)
theorem gw_X1_90 : GoodIn lw_all (wsV RX1 90 RX1 yX1_isAhead (ws_ yX1_isAhead cX1_isAhead 7 (some .boolean))) := gw_V ml_X1_90 im_X1_isAhead se_X1_isAhead ini_X1 cd_X1_isAhead
theorem ml_X1_82 : Cond.methodLink RX1 82 yX1_relative ∈ lw_all := lw_mem (i := 647) (by decide +kernel) (by decide +kernel)
theorem gw_X1_82 : GoodIn lw_all (wsV RX1 82 RX1 yX1_relative (ws_ yX1_relative cX1_relative 2 (some .long))) := gw_V ml_X1_82 im_X1_relative se_X1_relative ini_X1 cd_X1_relative
theorem ml_X1_98 : Cond.methodLink RX1 98 yX1_firstOf ∈ lw_all := lw_mem (i := 651) (by decide +kernel) (by decide +kernel)
theorem gw_X1_98 : GoodIn lw_all (wsV RX1 98 RX1 yX1_firstOf (ws_ yX1_firstOf cX1_firstOf 5 (some .int))) := gw_V ml_X1_98 im_X1_firstOf se_X1_firstOf ini_X1 cd_X1_firstOf
theorem ml_X1_102 : Cond.methodLink RX1 102 yX1_toSteal ∈ lw_all := lw_mem (i := 655) (by decide +kernel) (by decide +kernel)
theorem gw_X1_102 : GoodIn lw_all (wsV RX1 102 RX1 yX1_toSteal (ws_ yX1_toSteal cX1_toSteal 5 (some .int))) := gw_V ml_X1_102 im_X1_toSteal se_X1_toSteal ini_X1 cd_X1_toSteal
theorem ml_X1_105 : Cond.methodLink RX1 105 yX1_goesTo ∈ lw_all := lw_mem (i := 659) (by decide +kernel) (by decide +kernel)
theorem gw_X1_105 : GoodIn lw_all (wsV RX1 105 RX1 yX1_goesTo (ws_ yX1_goesTo cX1_goesTo 3 none)) := gw_V ml_X1_105 im_X1_goesTo se_X1_goesTo ini_X1 cd_X1_goesTo
theorem ml_X1_109 : Cond.methodLink RX1 109 yX1_queued ∈ lw_all := lw_mem (i := 663) (by decide +kernel) (by decide +kernel)
theorem gw_X1_109 : GoodIn lw_all (wsV RX1 109 RX1 yX1_queued (ws_ yX1_queued cX1_queued 4 (some .int))) := gw_V ml_X1_109 im_X1_queued se_X1_queued ini_X1 cd_X1_queued
theorem ml_L_114 : Cond.methodLink RL 114 yX1_createTask ∈ lw_all := lw_mem (i := 667) (by decide +kernel) (by decide +kernel)
theorem gw_L_114 : GoodIn lw_all (wsV RL 114 RX1 yX1_createTask (ws_ yX1_createTask cX1_createTask 5 (some .int))) := gw_V ml_L_114 im_X1_createTask se_X1_createTask ini_X1 cd_X1_createTask
theorem ml_X1_125 : Cond.methodLink RX1 125 yX1_noCpu ∈ lw_all := lw_mem (i := 671) (by decide +kernel) (by decide +kernel)
theorem gw_X1_125 : GoodIn lw_all (wsV RX1 125 RX1 yX1_noCpu (ws_ yX1_noCpu cX1_noCpu 2 (some .boolean))) := gw_V ml_X1_125 im_X1_noCpu se_X1_noCpu ini_X1 cd_X1_noCpu
theorem ml_X1_128 : Cond.methodLink RX1 128 yX1_noWeight ∈ lw_all := lw_mem (i := 675) (by decide +kernel) (by decide +kernel)
theorem gw_X1_128 : GoodIn lw_all (va_wsS RX1 128 yX1_noWeight (ws_ yX1_noWeight cX1_noWeight 1 (some .boolean))) := gw_S ml_X1_128 st_X1_noWeight ini_X1 cd_X1_noWeight
theorem ml_X1_131 : Cond.methodLink RX1 131 yX1_noCookie ∈ lw_all := lw_mem (i := 679) (by decide +kernel) (by decide +kernel)
theorem gw_X1_131 : GoodIn lw_all (va_wsS RX1 131 yX1_noCookie (ws_ yX1_noCookie cX1_noCookie 1 (some .boolean))) := gw_S ml_X1_131 st_X1_noCookie ini_X1 cd_X1_noCookie
theorem ml_L_117 : Cond.methodLink RL 117 yX1_sleep ∈ lw_all := lw_mem (i := 683) (by decide +kernel) (by decide +kernel)
theorem gw_L_117 : GoodIn lw_all (wsV RL 117 RX1 yX1_sleep (ws_ yX1_sleep cX1_sleep 2 (some .int))) := gw_V ml_L_117 im_X1_sleep se_X1_sleep ini_X1 cd_X1_sleep
theorem ml_X1_134 : Cond.methodLink RX1 134 yX1_noTask ∈ lw_all := lw_mem (i := 687) (by decide +kernel) (by decide +kernel)
theorem gw_X1_134 : GoodIn lw_all (wsV RX1 134 RX1 yX1_noTask (ws_ yX1_noTask cX1_noTask 2 (some .boolean))) := gw_V ml_X1_134 im_X1_noTask se_X1_noTask ini_X1 cd_X1_noTask
theorem ml_X1_137 : Cond.methodLink RX1 137 yX1_becomes ∈ lw_all := lw_mem (i := 691) (by decide +kernel) (by decide +kernel)
theorem gw_X1_137 : GoodIn lw_all (wsV RX1 137 RX1 yX1_becomes (ws_ yX1_becomes cX1_becomes 4 (some .int))) := gw_V ml_X1_137 im_X1_becomes se_X1_becomes ini_X1 cd_X1_becomes
theorem ml_L_120 : Cond.methodLink RL 120 yX1_wake ∈ lw_all := lw_mem (i := 695) (by decide +kernel) (by decide +kernel)
theorem gw_L_120 : GoodIn lw_all (wsV RL 120 RX1 yX1_wake (ws_ yX1_wake cX1_wake 2 (some .long))) := gw_V ml_L_120 im_X1_wake se_X1_wake ini_X1 cd_X1_wake
theorem ml_L_123 : Cond.methodLink RL 123 yX1_exit ∈ lw_all := lw_mem (i := 699) (by decide +kernel) (by decide +kernel)
theorem gw_L_123 : GoodIn lw_all (wsV RL 123 RX1 yX1_exit (ws_ yX1_exit cX1_exit 2 (some .int))) := gw_V ml_L_123 im_X1_exit se_X1_exit ini_X1 cd_X1_exit
theorem ml_X1_140 : Cond.methodLink RX1 140 yX1_hasExited ∈ lw_all := lw_mem (i := 703) (by decide +kernel) (by decide +kernel)
theorem gw_X1_140 : GoodIn lw_all (wsV RX1 140 RX1 yX1_hasExited (ws_ yX1_hasExited cX1_hasExited 2 (some .boolean))) := gw_V ml_X1_140 im_X1_hasExited se_X1_hasExited ini_X1 cd_X1_hasExited
theorem ml_L_127 : Cond.methodLink RL 127 yX1_setWeight ∈ lw_all := lw_mem (i := 707) (by decide +kernel) (by decide +kernel)
theorem gw_L_127 : GoodIn lw_all (wsV RL 127 RX1 yX1_setWeight (ws_ yX1_setWeight cX1_setWeight 4 (some .int))) := gw_V ml_L_127 im_X1_setWeight se_X1_setWeight ini_X1 cd_X1_setWeight
theorem ml_L_130 : Cond.methodLink RL 130 yX1_setCookie ∈ lw_all := lw_mem (i := 711) (by decide +kernel) (by decide +kernel)
theorem gw_L_130 : GoodIn lw_all (wsV RL 130 RX1 yX1_setCookie (ws_ yX1_setCookie cX1_setCookie 4 (some .int))) := gw_V ml_L_130 im_X1_setCookie se_X1_setCookie ini_X1 cd_X1_setCookie
theorem ml_L_133 : Cond.methodLink RL 133 yX1_moveTask ∈ lw_all := lw_mem (i := 715) (by decide +kernel) (by decide +kernel)
theorem gw_L_133 : GoodIn lw_all (wsV RL 133 RX1 yX1_moveTask (ws_ yX1_moveTask cX1_moveTask 5 (some .int))) := gw_V ml_L_133 im_X1_moveTask se_X1_moveTask ini_X1 cd_X1_moveTask
theorem ml_L_137 : Cond.methodLink RL 137 yX1_taskCount ∈ lw_all := lw_mem (i := 719) (by decide +kernel) (by decide +kernel)
theorem gw_L_137 : GoodIn lw_all (wsV RL 137 RX1 yX1_taskCount (ws_ yX1_taskCount cX1_taskCount 1 (some .int))) := gw_V ml_L_137 im_X1_taskCount se_X1_taskCount ini_X1 cd_X1_taskCount
theorem ml_L_140 : Cond.methodLink RL 140 yX1_stateOf ∈ lw_all := lw_mem (i := 723) (by decide +kernel) (by decide +kernel)
theorem gw_L_140 : GoodIn lw_all (wsV RL 140 RX1 yX1_stateOf (ws_ yX1_stateOf cX1_stateOf 2 (some .int))) := gw_V ml_L_140 im_X1_stateOf se_X1_stateOf ini_X1 cd_X1_stateOf
theorem ml_L_143 : Cond.methodLink RL 143 yX1_cpuOf ∈ lw_all := lw_mem (i := 727) (by decide +kernel) (by decide +kernel)
theorem gw_L_143 : GoodIn lw_all (wsV RL 143 RX1 yX1_cpuOf (ws_ yX1_cpuOf cX1_cpuOf 2 (some .int))) := gw_V ml_L_143 im_X1_cpuOf se_X1_cpuOf ini_X1 cd_X1_cpuOf
theorem ml_L_146 : Cond.methodLink RL 146 yX1_virtualTime ∈ lw_all := lw_mem (i := 731) (by decide +kernel) (by decide +kernel)
theorem gw_L_146 : GoodIn lw_all (wsV RL 146 RX1 yX1_virtualTime (ws_ yX1_virtualTime cX1_virtualTime 2 (some .long))) := gw_V ml_L_146 im_X1_virtualTime se_X1_virtualTime ini_X1 cd_X1_virtualTime
theorem ml_L_149 : Cond.methodLink RL 149 yX1_runTicks ∈ lw_all := lw_mem (i := 735) (by decide +kernel) (by decide +kernel)
theorem gw_L_149 : GoodIn lw_all (wsV RL 149 RX1 yX1_runTicks (ws_ yX1_runTicks cX1_runTicks 2 (some .int))) := gw_V ml_L_149 im_X1_runTicks se_X1_runTicks ini_X1 cd_X1_runTicks
theorem ml_L_152 : Cond.methodLink RL 152 yX1_waitTicks ∈ lw_all := lw_mem (i := 739) (by decide +kernel) (by decide +kernel)
theorem gw_L_152 : GoodIn lw_all (wsV RL 152 RX1 yX1_waitTicks (ws_ yX1_waitTicks cX1_waitTicks 2 (some .int))) := gw_V ml_L_152 im_X1_waitTicks se_X1_waitTicks ini_X1 cd_X1_waitTicks
theorem ml_L_156 : Cond.methodLink RL 156 yX1_share ∈ lw_all := lw_mem (i := 743) (by decide +kernel) (by decide +kernel)
theorem gw_L_156 : GoodIn lw_all (wsV RL 156 RX1 yX1_share (ws_ yX1_share cX1_share 2 (some .double))) := gw_V ml_L_156 im_X1_share se_X1_share ini_X1 cd_X1_share
theorem ml_L_159 : Cond.methodLink RL 159 yX1_runningTask ∈ lw_all := lw_mem (i := 747) (by decide +kernel) (by decide +kernel)
theorem gw_L_159 : GoodIn lw_all (wsV RL 159 RX1 yX1_runningTask (ws_ yX1_runningTask cX1_runningTask 2 (some .int))) := gw_V ml_L_159 im_X1_runningTask se_X1_runningTask ini_X1 cd_X1_runningTask
theorem ml_L_162 : Cond.methodLink RL 162 yX1_coreCookie ∈ lw_all := lw_mem (i := 751) (by decide +kernel) (by decide +kernel)
theorem gw_L_162 : GoodIn lw_all (wsV RL 162 RX1 yX1_coreCookie (ws_ yX1_coreCookie cX1_coreCookie 2 (some .int))) := gw_V ml_L_162 im_X1_coreCookie se_X1_coreCookie ini_X1 cd_X1_coreCookie
theorem ml_X1_143 : Cond.methodLink RX1 143 yX1_noCore ∈ lw_all := lw_mem (i := 755) (by decide +kernel) (by decide +kernel)
theorem gw_X1_143 : GoodIn lw_all (wsV RX1 143 RX1 yX1_noCore (ws_ yX1_noCore cX1_noCore 2 (some .boolean))) := gw_V ml_X1_143 im_X1_noCore se_X1_noCore ini_X1 cd_X1_noCore
theorem ml_L_165 : Cond.methodLink RL 165 yX1_leaderOf ∈ lw_all := lw_mem (i := 759) (by decide +kernel) (by decide +kernel)
theorem gw_L_165 : GoodIn lw_all (wsV RL 165 RX1 yX1_leaderOf (ws_ yX1_leaderOf cX1_leaderOf 2 (some .int))) := gw_V ml_L_165 im_X1_leaderOf se_X1_leaderOf ini_X1 cd_X1_leaderOf
theorem ml_L_168 : Cond.methodLink RL 168 yX1_queueLength ∈ lw_all := lw_mem (i := 763) (by decide +kernel) (by decide +kernel)
theorem gw_L_168 : GoodIn lw_all (wsV RL 168 RX1 yX1_queueLength (ws_ yX1_queueLength cX1_queueLength 2 (some .int))) := gw_V ml_L_168 im_X1_queueLength se_X1_queueLength ini_X1 cd_X1_queueLength
theorem ml_L_171 : Cond.methodLink RL 171 yX1_queuedTask ∈ lw_all := lw_mem (i := 767) (by decide +kernel) (by decide +kernel)
theorem gw_L_171 : GoodIn lw_all (wsV RL 171 RX1 yX1_queuedTask (ws_ yX1_queuedTask cX1_queuedTask 7 (some .int))) := gw_V ml_L_171 im_X1_queuedTask se_X1_queuedTask ini_X1 cd_X1_queuedTask
theorem ml_L_174 : Cond.methodLink RL 174 yX1_baseOf ∈ lw_all := lw_mem (i := 771) (by decide +kernel) (by decide +kernel)
theorem gw_L_174 : GoodIn lw_all (wsV RL 174 RX1 yX1_baseOf (ws_ yX1_baseOf cX1_baseOf 2 (some .long))) := gw_V ml_L_174 im_X1_baseOf se_X1_baseOf ini_X1 cd_X1_baseOf
theorem ml_L_177 : Cond.methodLink RL 177 yX1_idleTicks ∈ lw_all := lw_mem (i := 775) (by decide +kernel) (by decide +kernel)
theorem gw_L_177 : GoodIn lw_all (wsV RL 177 RX1 yX1_idleTicks (ws_ yX1_idleTicks cX1_idleTicks 2 (some .int))) := gw_V ml_L_177 im_X1_idleTicks se_X1_idleTicks ini_X1 cd_X1_idleTicks
theorem ml_L_180 : Cond.methodLink RL 180 yX1_forcedIdleTicks ∈ lw_all := lw_mem (i := 779) (by decide +kernel) (by decide +kernel)
theorem gw_L_180 : GoodIn lw_all (wsV RL 180 RX1 yX1_forcedIdleTicks (ws_ yX1_forcedIdleTicks cX1_forcedIdleTicks 2 (some .int))) := gw_V ml_L_180 im_X1_forcedIdleTicks se_X1_forcedIdleTicks ini_X1 cd_X1_forcedIdleTicks
theorem ml_L_184 : Cond.methodLink RL 184 yX1_stolenTasks ∈ lw_all := lw_mem (i := 783) (by decide +kernel) (by decide +kernel)
theorem gw_L_184 : GoodIn lw_all (wsV RL 184 RX1 yX1_stolenTasks (ws_ yX1_stolenTasks cX1_stolenTasks 1 (some .int))) := gw_V ml_L_184 im_X1_stolenTasks se_X1_stolenTasks ini_X1 cd_X1_stolenTasks
theorem hd_X0_init : yX0_init.cls = RX0 ∧ yX0_init.cls ≠ "java/lang/invoke/MethodHandle" ∧ yX0_init.cls ≠ "java/lang/invoke/VarHandle" ∧ (parseMethodDescriptor yX0_init.desc).map (fun d => d.parameters.length) = some 0 := by decide +kernel
theorem hd_X0_startAnew : yX0_startAnew.cls = RX0 ∧ yX0_startAnew.cls ≠ "java/lang/invoke/MethodHandle" ∧ yX0_startAnew.cls ≠ "java/lang/invoke/VarHandle" ∧ (parseMethodDescriptor yX0_startAnew.desc).map (fun d => d.parameters.length) = some 1 := by decide +kernel
theorem hd_X0_setStealing : yX0_setStealing.cls = RX0 ∧ yX0_setStealing.cls ≠ "java/lang/invoke/MethodHandle" ∧ yX0_setStealing.cls ≠ "java/lang/invoke/VarHandle" ∧ (parseMethodDescriptor yX0_setStealing.desc).map (fun d => d.parameters.length) = some 1 := by decide +kernel
theorem hd_X0_taskCount : yX0_taskCount.cls = RX0 ∧ yX0_taskCount.cls ≠ "java/lang/invoke/MethodHandle" ∧ yX0_taskCount.cls ≠ "java/lang/invoke/VarHandle" ∧ (parseMethodDescriptor yX0_taskCount.desc).map (fun d => d.parameters.length) = some 0 := by decide +kernel
theorem hd_X0_stolenTasks : yX0_stolenTasks.cls = RX0 ∧ yX0_stolenTasks.cls ≠ "java/lang/invoke/MethodHandle" ∧ yX0_stolenTasks.cls ≠ "java/lang/invoke/VarHandle" ∧ (parseMethodDescriptor yX0_stolenTasks.desc).map (fun d => d.parameters.length) = some 0 := by decide +kernel
theorem hd_X0_reset : yX0_reset.cls = RX0 ∧ yX0_reset.cls ≠ "java/lang/invoke/MethodHandle" ∧ yX0_reset.cls ≠ "java/lang/invoke/VarHandle" ∧ (parseMethodDescriptor yX0_reset.desc).map (fun d => d.parameters.length) = some 1 := by decide +kernel
theorem hd_X0_tick : yX0_tick.cls = RX0 ∧ yX0_tick.cls ≠ "java/lang/invoke/MethodHandle" ∧ yX0_tick.cls ≠ "java/lang/invoke/VarHandle" ∧ (parseMethodDescriptor yX0_tick.desc).map (fun d => d.parameters.length) = some 1 := by decide +kernel
theorem hd_X0_simulateTick : yX0_simulateTick.cls = RX0 ∧ yX0_simulateTick.cls ≠ "java/lang/invoke/MethodHandle" ∧ yX0_simulateTick.cls ≠ "java/lang/invoke/VarHandle" ∧ (parseMethodDescriptor yX0_simulateTick.desc).map (fun d => d.parameters.length) = some 0 := by decide +kernel
theorem hd_X0_pickForCore : yX0_pickForCore.cls = RX0 ∧ yX0_pickForCore.cls ≠ "java/lang/invoke/MethodHandle" ∧ yX0_pickForCore.cls ≠ "java/lang/invoke/VarHandle" ∧ (parseMethodDescriptor yX0_pickForCore.desc).map (fun d => d.parameters.length) = some 1 := by decide +kernel
theorem hd_X0_findLeader : yX0_findLeader.cls = RX0 ∧ yX0_findLeader.cls ≠ "java/lang/invoke/MethodHandle" ∧ yX0_findLeader.cls ≠ "java/lang/invoke/VarHandle" ∧ (parseMethodDescriptor yX0_findLeader.desc).map (fun d => d.parameters.length) = some 1 := by decide +kernel
theorem hd_X0_isRunnable : yX0_isRunnable.cls = RX0 ∧ yX0_isRunnable.cls ≠ "java/lang/invoke/MethodHandle" ∧ yX0_isRunnable.cls ≠ "java/lang/invoke/VarHandle" ∧ (parseMethodDescriptor yX0_isRunnable.desc).map (fun d => d.parameters.length) = some 1 := by decide +kernel
theorem hd_X0_isOnCore : yX0_isOnCore.cls = RX0 ∧ yX0_isOnCore.cls ≠ "java/lang/invoke/MethodHandle" ∧ yX0_isOnCore.cls ≠ "java/lang/invoke/VarHandle" ∧ (parseMethodDescriptor yX0_isOnCore.desc).map (fun d => d.parameters.length) = some 2 := by decide +kernel
theorem hd_X0_coreOfCpu : yX0_coreOfCpu.cls = RX0 ∧ yX0_coreOfCpu.cls ≠ "java/lang/invoke/MethodHandle" ∧ yX0_coreOfCpu.cls ≠ "java/lang/invoke/VarHandle" ∧ (parseMethodDescriptor yX0_coreOfCpu.desc).map (fun d => d.parameters.length) = some 1 := by decide +kernel
theorem hd_X0_comesBefore : yX0_comesBefore.cls = RX0 ∧ yX0_comesBefore.cls ≠ "java/lang/invoke/MethodHandle" ∧ yX0_comesBefore.cls ≠ "java/lang/invoke/VarHandle" ∧ (parseMethodDescriptor yX0_comesBefore.desc).map (fun d => d.parameters.length) = some 2 := by decide +kernel
theorem hd_X0_relativeTime : yX0_relativeTime.cls = RX0 ∧ yX0_relativeTime.cls ≠ "java/lang/invoke/MethodHandle" ∧ yX0_relativeTime.cls ≠ "java/lang/invoke/VarHandle" ∧ (parseMethodDescriptor yX0_relativeTime.desc).map (fun d => d.parameters.length) = some 1 := by decide +kernel
theorem hd_X0_releaseTasks : yX0_releaseTasks.cls = RX0 ∧ yX0_releaseTasks.cls ≠ "java/lang/invoke/MethodHandle" ∧ yX0_releaseTasks.cls ≠ "java/lang/invoke/VarHandle" ∧ (parseMethodDescriptor yX0_releaseTasks.desc).map (fun d => d.parameters.length) = some 1 := by decide +kernel
theorem hd_X0_takeTask : yX0_takeTask.cls = RX0 ∧ yX0_takeTask.cls ≠ "java/lang/invoke/MethodHandle" ∧ yX0_takeTask.cls ≠ "java/lang/invoke/VarHandle" ∧ (parseMethodDescriptor yX0_takeTask.desc).map (fun d => d.parameters.length) = some 2 := by decide +kernel
theorem hd_X0_findOwn : yX0_findOwn.cls = RX0 ∧ yX0_findOwn.cls ≠ "java/lang/invoke/MethodHandle" ∧ yX0_findOwn.cls ≠ "java/lang/invoke/VarHandle" ∧ (parseMethodDescriptor yX0_findOwn.desc).map (fun d => d.parameters.length) = some 2 := by decide +kernel
theorem hd_X0_isQueued : yX0_isQueued.cls = RX0 ∧ yX0_isQueued.cls ≠ "java/lang/invoke/MethodHandle" ∧ yX0_isQueued.cls ≠ "java/lang/invoke/VarHandle" ∧ (parseMethodDescriptor yX0_isQueued.desc).map (fun d => d.parameters.length) = some 2 := by decide +kernel
theorem hd_X0_findLoot : yX0_findLoot.cls = RX0 ∧ yX0_findLoot.cls ≠ "java/lang/invoke/MethodHandle" ∧ yX0_findLoot.cls ≠ "java/lang/invoke/VarHandle" ∧ (parseMethodDescriptor yX0_findLoot.desc).map (fun d => d.parameters.length) = some 2 := by decide +kernel
theorem hd_X0_isLoot : yX0_isLoot.cls = RX0 ∧ yX0_isLoot.cls ≠ "java/lang/invoke/MethodHandle" ∧ yX0_isLoot.cls ≠ "java/lang/invoke/VarHandle" ∧ (parseMethodDescriptor yX0_isLoot.desc).map (fun d => d.parameters.length) = some 3 := by decide +kernel
theorem hd_X0_moveRunnable : yX0_moveRunnable.cls = RX0 ∧ yX0_moveRunnable.cls ≠ "java/lang/invoke/MethodHandle" ∧ yX0_moveRunnable.cls ≠ "java/lang/invoke/VarHandle" ∧ (parseMethodDescriptor yX0_moveRunnable.desc).map (fun d => d.parameters.length) = some 2 := by decide +kernel
theorem hd_X0_giveToCpu : yX0_giveToCpu.cls = RX0 ∧ yX0_giveToCpu.cls ≠ "java/lang/invoke/MethodHandle" ∧ yX0_giveToCpu.cls ≠ "java/lang/invoke/VarHandle" ∧ (parseMethodDescriptor yX0_giveToCpu.desc).map (fun d => d.parameters.length) = some 2 := by decide +kernel
theorem hd_X0_countQueue : yX0_countQueue.cls = RX0 ∧ yX0_countQueue.cls ≠ "java/lang/invoke/MethodHandle" ∧ yX0_countQueue.cls ≠ "java/lang/invoke/VarHandle" ∧ (parseMethodDescriptor yX0_countQueue.desc).map (fun d => d.parameters.length) = some 1 := by decide +kernel
theorem hd_X0_chargeTasks : yX0_chargeTasks.cls = RX0 ∧ yX0_chargeTasks.cls ≠ "java/lang/invoke/MethodHandle" ∧ yX0_chargeTasks.cls ≠ "java/lang/invoke/VarHandle" ∧ (parseMethodDescriptor yX0_chargeTasks.desc).map (fun d => d.parameters.length) = some 0 := by decide +kernel
theorem hd_X0_costOfTick : yX0_costOfTick.cls = RX0 ∧ yX0_costOfTick.cls ≠ "java/lang/invoke/MethodHandle" ∧ yX0_costOfTick.cls ≠ "java/lang/invoke/VarHandle" ∧ (parseMethodDescriptor yX0_costOfTick.desc).map (fun d => d.parameters.length) = some 1 := by decide +kernel
theorem hd_X0_countIdleCpus : yX0_countIdleCpus.cls = RX0 ∧ yX0_countIdleCpus.cls ≠ "java/lang/invoke/MethodHandle" ∧ yX0_countIdleCpus.cls ≠ "java/lang/invoke/VarHandle" ∧ (parseMethodDescriptor yX0_countIdleCpus.desc).map (fun d => d.parameters.length) = some 0 := by decide +kernel
theorem hd_X0_cpuTotal : yX0_cpuTotal.cls = RX0 ∧ yX0_cpuTotal.cls ≠ "java/lang/invoke/MethodHandle" ∧ yX0_cpuTotal.cls ≠ "java/lang/invoke/VarHandle" ∧ (parseMethodDescriptor yX0_cpuTotal.desc).map (fun d => d.parameters.length) = some 0 := by decide +kernel
theorem hd_X0_raiseBases : yX0_raiseBases.cls = RX0 ∧ yX0_raiseBases.cls ≠ "java/lang/invoke/MethodHandle" ∧ yX0_raiseBases.cls ≠ "java/lang/invoke/VarHandle" ∧ (parseMethodDescriptor yX0_raiseBases.desc).map (fun d => d.parameters.length) = some 0 := by decide +kernel
theorem hd_X0_findLeastTime : yX0_findLeastTime.cls = RX0 ∧ yX0_findLeastTime.cls ≠ "java/lang/invoke/MethodHandle" ∧ yX0_findLeastTime.cls ≠ "java/lang/invoke/VarHandle" ∧ (parseMethodDescriptor yX0_findLeastTime.desc).map (fun d => d.parameters.length) = some 1 := by decide +kernel
theorem hd_J9_max_f86c9 : yJ9_max_f86c9.cls = "java/lang/Math" ∧ yJ9_max_f86c9.cls ≠ "java/lang/invoke/MethodHandle" ∧ yJ9_max_f86c9.cls ≠ "java/lang/invoke/VarHandle" ∧ (parseMethodDescriptor yJ9_max_f86c9.desc).map (fun d => d.parameters.length) = some 2 := by decide +kernel
theorem hd_X0_createTask : yX0_createTask.cls = RX0 ∧ yX0_createTask.cls ≠ "java/lang/invoke/MethodHandle" ∧ yX0_createTask.cls ≠ "java/lang/invoke/VarHandle" ∧ (parseMethodDescriptor yX0_createTask.desc).map (fun d => d.parameters.length) = some 3 := by decide +kernel
theorem hd_X0_checkCpu : yX0_checkCpu.cls = RX0 ∧ yX0_checkCpu.cls ≠ "java/lang/invoke/MethodHandle" ∧ yX0_checkCpu.cls ≠ "java/lang/invoke/VarHandle" ∧ (parseMethodDescriptor yX0_checkCpu.desc).map (fun d => d.parameters.length) = some 1 := by decide +kernel
theorem hd_X0_checkWeight : yX0_checkWeight.cls = RX0 ∧ yX0_checkWeight.cls ≠ "java/lang/invoke/MethodHandle" ∧ yX0_checkWeight.cls ≠ "java/lang/invoke/VarHandle" ∧ (parseMethodDescriptor yX0_checkWeight.desc).map (fun d => d.parameters.length) = some 1 := by decide +kernel
theorem hd_X0_checkCookie : yX0_checkCookie.cls = RX0 ∧ yX0_checkCookie.cls ≠ "java/lang/invoke/MethodHandle" ∧ yX0_checkCookie.cls ≠ "java/lang/invoke/VarHandle" ∧ (parseMethodDescriptor yX0_checkCookie.desc).map (fun d => d.parameters.length) = some 1 := by decide +kernel
theorem hd_X0_enterQueue : yX0_enterQueue.cls = RX0 ∧ yX0_enterQueue.cls ≠ "java/lang/invoke/MethodHandle" ∧ yX0_enterQueue.cls ≠ "java/lang/invoke/VarHandle" ∧ (parseMethodDescriptor yX0_enterQueue.desc).map (fun d => d.parameters.length) = some 1 := by decide +kernel
theorem hd_X0_sleep : yX0_sleep.cls = RX0 ∧ yX0_sleep.cls ≠ "java/lang/invoke/MethodHandle" ∧ yX0_sleep.cls ≠ "java/lang/invoke/VarHandle" ∧ (parseMethodDescriptor yX0_sleep.desc).map (fun d => d.parameters.length) = some 1 := by decide +kernel
theorem hd_X0_checkTask : yX0_checkTask.cls = RX0 ∧ yX0_checkTask.cls ≠ "java/lang/invoke/MethodHandle" ∧ yX0_checkTask.cls ≠ "java/lang/invoke/VarHandle" ∧ (parseMethodDescriptor yX0_checkTask.desc).map (fun d => d.parameters.length) = some 1 := by decide +kernel
theorem hd_X0_stopTask : yX0_stopTask.cls = RX0 ∧ yX0_stopTask.cls ≠ "java/lang/invoke/MethodHandle" ∧ yX0_stopTask.cls ≠ "java/lang/invoke/VarHandle" ∧ (parseMethodDescriptor yX0_stopTask.desc).map (fun d => d.parameters.length) = some 2 := by decide +kernel
theorem hd_X0_wake : yX0_wake.cls = RX0 ∧ yX0_wake.cls ≠ "java/lang/invoke/MethodHandle" ∧ yX0_wake.cls ≠ "java/lang/invoke/VarHandle" ∧ (parseMethodDescriptor yX0_wake.desc).map (fun d => d.parameters.length) = some 1 := by decide +kernel
theorem hd_X0_exit : yX0_exit.cls = RX0 ∧ yX0_exit.cls ≠ "java/lang/invoke/MethodHandle" ∧ yX0_exit.cls ≠ "java/lang/invoke/VarHandle" ∧ (parseMethodDescriptor yX0_exit.desc).map (fun d => d.parameters.length) = some 1 := by decide +kernel
theorem hd_X0_checkNotExited : yX0_checkNotExited.cls = RX0 ∧ yX0_checkNotExited.cls ≠ "java/lang/invoke/MethodHandle" ∧ yX0_checkNotExited.cls ≠ "java/lang/invoke/VarHandle" ∧ (parseMethodDescriptor yX0_checkNotExited.desc).map (fun d => d.parameters.length) = some 1 := by decide +kernel
theorem hd_X0_setWeight : yX0_setWeight.cls = RX0 ∧ yX0_setWeight.cls ≠ "java/lang/invoke/MethodHandle" ∧ yX0_setWeight.cls ≠ "java/lang/invoke/VarHandle" ∧ (parseMethodDescriptor yX0_setWeight.desc).map (fun d => d.parameters.length) = some 2 := by decide +kernel
theorem hd_X0_setCookie : yX0_setCookie.cls = RX0 ∧ yX0_setCookie.cls ≠ "java/lang/invoke/MethodHandle" ∧ yX0_setCookie.cls ≠ "java/lang/invoke/VarHandle" ∧ (parseMethodDescriptor yX0_setCookie.desc).map (fun d => d.parameters.length) = some 2 := by decide +kernel
theorem hd_X0_moveTask : yX0_moveTask.cls = RX0 ∧ yX0_moveTask.cls ≠ "java/lang/invoke/MethodHandle" ∧ yX0_moveTask.cls ≠ "java/lang/invoke/VarHandle" ∧ (parseMethodDescriptor yX0_moveTask.desc).map (fun d => d.parameters.length) = some 2 := by decide +kernel
theorem hd_X0_stateOf : yX0_stateOf.cls = RX0 ∧ yX0_stateOf.cls ≠ "java/lang/invoke/MethodHandle" ∧ yX0_stateOf.cls ≠ "java/lang/invoke/VarHandle" ∧ (parseMethodDescriptor yX0_stateOf.desc).map (fun d => d.parameters.length) = some 1 := by decide +kernel
theorem hd_X0_cpuOf : yX0_cpuOf.cls = RX0 ∧ yX0_cpuOf.cls ≠ "java/lang/invoke/MethodHandle" ∧ yX0_cpuOf.cls ≠ "java/lang/invoke/VarHandle" ∧ (parseMethodDescriptor yX0_cpuOf.desc).map (fun d => d.parameters.length) = some 1 := by decide +kernel
theorem hd_X0_virtualTime : yX0_virtualTime.cls = RX0 ∧ yX0_virtualTime.cls ≠ "java/lang/invoke/MethodHandle" ∧ yX0_virtualTime.cls ≠ "java/lang/invoke/VarHandle" ∧ (parseMethodDescriptor yX0_virtualTime.desc).map (fun d => d.parameters.length) = some 1 := by decide +kernel
theorem hd_X0_runTicks : yX0_runTicks.cls = RX0 ∧ yX0_runTicks.cls ≠ "java/lang/invoke/MethodHandle" ∧ yX0_runTicks.cls ≠ "java/lang/invoke/VarHandle" ∧ (parseMethodDescriptor yX0_runTicks.desc).map (fun d => d.parameters.length) = some 1 := by decide +kernel
theorem hd_X0_waitTicks : yX0_waitTicks.cls = RX0 ∧ yX0_waitTicks.cls ≠ "java/lang/invoke/MethodHandle" ∧ yX0_waitTicks.cls ≠ "java/lang/invoke/VarHandle" ∧ (parseMethodDescriptor yX0_waitTicks.desc).map (fun d => d.parameters.length) = some 1 := by decide +kernel
theorem hd_X0_share : yX0_share.cls = RX0 ∧ yX0_share.cls ≠ "java/lang/invoke/MethodHandle" ∧ yX0_share.cls ≠ "java/lang/invoke/VarHandle" ∧ (parseMethodDescriptor yX0_share.desc).map (fun d => d.parameters.length) = some 1 := by decide +kernel
theorem hd_X0_runningTask : yX0_runningTask.cls = RX0 ∧ yX0_runningTask.cls ≠ "java/lang/invoke/MethodHandle" ∧ yX0_runningTask.cls ≠ "java/lang/invoke/VarHandle" ∧ (parseMethodDescriptor yX0_runningTask.desc).map (fun d => d.parameters.length) = some 1 := by decide +kernel
theorem hd_X0_coreCookie : yX0_coreCookie.cls = RX0 ∧ yX0_coreCookie.cls ≠ "java/lang/invoke/MethodHandle" ∧ yX0_coreCookie.cls ≠ "java/lang/invoke/VarHandle" ∧ (parseMethodDescriptor yX0_coreCookie.desc).map (fun d => d.parameters.length) = some 1 := by decide +kernel
theorem hd_X0_checkCore : yX0_checkCore.cls = RX0 ∧ yX0_checkCore.cls ≠ "java/lang/invoke/MethodHandle" ∧ yX0_checkCore.cls ≠ "java/lang/invoke/VarHandle" ∧ (parseMethodDescriptor yX0_checkCore.desc).map (fun d => d.parameters.length) = some 1 := by decide +kernel
theorem hd_X0_leaderOf : yX0_leaderOf.cls = RX0 ∧ yX0_leaderOf.cls ≠ "java/lang/invoke/MethodHandle" ∧ yX0_leaderOf.cls ≠ "java/lang/invoke/VarHandle" ∧ (parseMethodDescriptor yX0_leaderOf.desc).map (fun d => d.parameters.length) = some 1 := by decide +kernel
theorem hd_X0_queueLength : yX0_queueLength.cls = RX0 ∧ yX0_queueLength.cls ≠ "java/lang/invoke/MethodHandle" ∧ yX0_queueLength.cls ≠ "java/lang/invoke/VarHandle" ∧ (parseMethodDescriptor yX0_queueLength.desc).map (fun d => d.parameters.length) = some 1 := by decide +kernel
theorem hd_X0_queuedTask : yX0_queuedTask.cls = RX0 ∧ yX0_queuedTask.cls ≠ "java/lang/invoke/MethodHandle" ∧ yX0_queuedTask.cls ≠ "java/lang/invoke/VarHandle" ∧ (parseMethodDescriptor yX0_queuedTask.desc).map (fun d => d.parameters.length) = some 2 := by decide +kernel
theorem hd_X0_positionOf : yX0_positionOf.cls = RX0 ∧ yX0_positionOf.cls ≠ "java/lang/invoke/MethodHandle" ∧ yX0_positionOf.cls ≠ "java/lang/invoke/VarHandle" ∧ (parseMethodDescriptor yX0_positionOf.desc).map (fun d => d.parameters.length) = some 1 := by decide +kernel
theorem hd_X0_baseOf : yX0_baseOf.cls = RX0 ∧ yX0_baseOf.cls ≠ "java/lang/invoke/MethodHandle" ∧ yX0_baseOf.cls ≠ "java/lang/invoke/VarHandle" ∧ (parseMethodDescriptor yX0_baseOf.desc).map (fun d => d.parameters.length) = some 1 := by decide +kernel
theorem hd_X0_idleTicks : yX0_idleTicks.cls = RX0 ∧ yX0_idleTicks.cls ≠ "java/lang/invoke/MethodHandle" ∧ yX0_idleTicks.cls ≠ "java/lang/invoke/VarHandle" ∧ (parseMethodDescriptor yX0_idleTicks.desc).map (fun d => d.parameters.length) = some 1 := by decide +kernel
theorem hd_X0_forcedIdleTicks : yX0_forcedIdleTicks.cls = RX0 ∧ yX0_forcedIdleTicks.cls ≠ "java/lang/invoke/MethodHandle" ∧ yX0_forcedIdleTicks.cls ≠ "java/lang/invoke/VarHandle" ∧ (parseMethodDescriptor yX0_forcedIdleTicks.desc).map (fun d => d.parameters.length) = some 1 := by decide +kernel
theorem hd_X1_init : yX1_init.cls = RX1 ∧ yX1_init.cls ≠ "java/lang/invoke/MethodHandle" ∧ yX1_init.cls ≠ "java/lang/invoke/VarHandle" ∧ (parseMethodDescriptor yX1_init.desc).map (fun d => d.parameters.length) = some 0 := by decide +kernel
theorem hd_X1_begins : yX1_begins.cls = RX1 ∧ yX1_begins.cls ≠ "java/lang/invoke/MethodHandle" ∧ yX1_begins.cls ≠ "java/lang/invoke/VarHandle" ∧ (parseMethodDescriptor yX1_begins.desc).map (fun d => d.parameters.length) = some 1 := by decide +kernel
theorem hd_X1_thrown : yX1_thrown.cls = RX1 ∧ yX1_thrown.cls ≠ "java/lang/invoke/MethodHandle" ∧ yX1_thrown.cls ≠ "java/lang/invoke/VarHandle" ∧ (parseMethodDescriptor yX1_thrown.desc).map (fun d => d.parameters.length) = some 0 := by decide +kernel
theorem hd_X1_reset : yX1_reset.cls = RX1 ∧ yX1_reset.cls ≠ "java/lang/invoke/MethodHandle" ∧ yX1_reset.cls ≠ "java/lang/invoke/VarHandle" ∧ (parseMethodDescriptor yX1_reset.desc).map (fun d => d.parameters.length) = some 1 := by decide +kernel
theorem hd_X1_in : yX1_in.cls = RX1 ∧ yX1_in.cls ≠ "java/lang/invoke/MethodHandle" ∧ yX1_in.cls ≠ "java/lang/invoke/VarHandle" ∧ (parseMethodDescriptor yX1_in.desc).map (fun d => d.parameters.length) = some 3 := by decide +kernel
theorem hd_X1_isRefused : yX1_isRefused.cls = RX1 ∧ yX1_isRefused.cls ≠ "java/lang/invoke/MethodHandle" ∧ yX1_isRefused.cls ≠ "java/lang/invoke/VarHandle" ∧ (parseMethodDescriptor yX1_isRefused.desc).map (fun d => d.parameters.length) = some 2 := by decide +kernel
theorem hd_X1_setStealing : yX1_setStealing.cls = RX1 ∧ yX1_setStealing.cls ≠ "java/lang/invoke/MethodHandle" ∧ yX1_setStealing.cls ≠ "java/lang/invoke/VarHandle" ∧ (parseMethodDescriptor yX1_setStealing.desc).map (fun d => d.parameters.length) = some 1 := by decide +kernel
theorem hd_X1_tick : yX1_tick.cls = RX1 ∧ yX1_tick.cls ≠ "java/lang/invoke/MethodHandle" ∧ yX1_tick.cls ≠ "java/lang/invoke/VarHandle" ∧ (parseMethodDescriptor yX1_tick.desc).map (fun d => d.parameters.length) = some 1 := by decide +kernel
theorem hd_X1_tickOne : yX1_tickOne.cls = RX1 ∧ yX1_tickOne.cls ≠ "java/lang/invoke/MethodHandle" ∧ yX1_tickOne.cls ≠ "java/lang/invoke/VarHandle" ∧ (parseMethodDescriptor yX1_tickOne.desc).map (fun d => d.parameters.length) = some 0 := by decide +kernel
theorem hd_X1_picks : yX1_picks.cls = RX1 ∧ yX1_picks.cls ≠ "java/lang/invoke/MethodHandle" ∧ yX1_picks.cls ≠ "java/lang/invoke/VarHandle" ∧ (parseMethodDescriptor yX1_picks.desc).map (fun d => d.parameters.length) = some 1 := by decide +kernel
theorem hd_X1_leader : yX1_leader.cls = RX1 ∧ yX1_leader.cls ≠ "java/lang/invoke/MethodHandle" ∧ yX1_leader.cls ≠ "java/lang/invoke/VarHandle" ∧ (parseMethodDescriptor yX1_leader.desc).map (fun d => d.parameters.length) = some 1 := by decide +kernel
theorem hd_X1_isRunnable : yX1_isRunnable.cls = RX1 ∧ yX1_isRunnable.cls ≠ "java/lang/invoke/MethodHandle" ∧ yX1_isRunnable.cls ≠ "java/lang/invoke/VarHandle" ∧ (parseMethodDescriptor yX1_isRunnable.desc).map (fun d => d.parameters.length) = some 1 := by decide +kernel
theorem hd_X1_isAhead : yX1_isAhead.cls = RX1 ∧ yX1_isAhead.cls ≠ "java/lang/invoke/MethodHandle" ∧ yX1_isAhead.cls ≠ "java/lang/invoke/VarHandle" ∧ (parseMethodDescriptor yX1_isAhead.desc).map (fun d => d.parameters.length) = some 2 := by decide +kernel
theorem hd_X1_relative : yX1_relative.cls = RX1 ∧ yX1_relative.cls ≠ "java/lang/invoke/MethodHandle" ∧ yX1_relative.cls ≠ "java/lang/invoke/VarHandle" ∧ (parseMethodDescriptor yX1_relative.desc).map (fun d => d.parameters.length) = some 1 := by decide +kernel
theorem hd_X1_firstOf : yX1_firstOf.cls = RX1 ∧ yX1_firstOf.cls ≠ "java/lang/invoke/MethodHandle" ∧ yX1_firstOf.cls ≠ "java/lang/invoke/VarHandle" ∧ (parseMethodDescriptor yX1_firstOf.desc).map (fun d => d.parameters.length) = some 2 := by decide +kernel
theorem hd_X1_toSteal : yX1_toSteal.cls = RX1 ∧ yX1_toSteal.cls ≠ "java/lang/invoke/MethodHandle" ∧ yX1_toSteal.cls ≠ "java/lang/invoke/VarHandle" ∧ (parseMethodDescriptor yX1_toSteal.desc).map (fun d => d.parameters.length) = some 2 := by decide +kernel
theorem hd_X1_goesTo : yX1_goesTo.cls = RX1 ∧ yX1_goesTo.cls ≠ "java/lang/invoke/MethodHandle" ∧ yX1_goesTo.cls ≠ "java/lang/invoke/VarHandle" ∧ (parseMethodDescriptor yX1_goesTo.desc).map (fun d => d.parameters.length) = some 2 := by decide +kernel
theorem hd_X1_queued : yX1_queued.cls = RX1 ∧ yX1_queued.cls ≠ "java/lang/invoke/MethodHandle" ∧ yX1_queued.cls ≠ "java/lang/invoke/VarHandle" ∧ (parseMethodDescriptor yX1_queued.desc).map (fun d => d.parameters.length) = some 1 := by decide +kernel
theorem hd_X1_createTask : yX1_createTask.cls = RX1 ∧ yX1_createTask.cls ≠ "java/lang/invoke/MethodHandle" ∧ yX1_createTask.cls ≠ "java/lang/invoke/VarHandle" ∧ (parseMethodDescriptor yX1_createTask.desc).map (fun d => d.parameters.length) = some 3 := by decide +kernel
theorem hd_X1_noCpu : yX1_noCpu.cls = RX1 ∧ yX1_noCpu.cls ≠ "java/lang/invoke/MethodHandle" ∧ yX1_noCpu.cls ≠ "java/lang/invoke/VarHandle" ∧ (parseMethodDescriptor yX1_noCpu.desc).map (fun d => d.parameters.length) = some 1 := by decide +kernel
theorem hd_X1_noWeight : yX1_noWeight.cls = RX1 ∧ yX1_noWeight.cls ≠ "java/lang/invoke/MethodHandle" ∧ yX1_noWeight.cls ≠ "java/lang/invoke/VarHandle" ∧ (parseMethodDescriptor yX1_noWeight.desc).map (fun d => d.parameters.length) = some 1 := by decide +kernel
theorem hd_X1_noCookie : yX1_noCookie.cls = RX1 ∧ yX1_noCookie.cls ≠ "java/lang/invoke/MethodHandle" ∧ yX1_noCookie.cls ≠ "java/lang/invoke/VarHandle" ∧ (parseMethodDescriptor yX1_noCookie.desc).map (fun d => d.parameters.length) = some 1 := by decide +kernel
theorem hd_X1_sleep : yX1_sleep.cls = RX1 ∧ yX1_sleep.cls ≠ "java/lang/invoke/MethodHandle" ∧ yX1_sleep.cls ≠ "java/lang/invoke/VarHandle" ∧ (parseMethodDescriptor yX1_sleep.desc).map (fun d => d.parameters.length) = some 1 := by decide +kernel
theorem hd_X1_noTask : yX1_noTask.cls = RX1 ∧ yX1_noTask.cls ≠ "java/lang/invoke/MethodHandle" ∧ yX1_noTask.cls ≠ "java/lang/invoke/VarHandle" ∧ (parseMethodDescriptor yX1_noTask.desc).map (fun d => d.parameters.length) = some 1 := by decide +kernel
theorem hd_X1_becomes : yX1_becomes.cls = RX1 ∧ yX1_becomes.cls ≠ "java/lang/invoke/MethodHandle" ∧ yX1_becomes.cls ≠ "java/lang/invoke/VarHandle" ∧ (parseMethodDescriptor yX1_becomes.desc).map (fun d => d.parameters.length) = some 2 := by decide +kernel
theorem hd_X1_wake : yX1_wake.cls = RX1 ∧ yX1_wake.cls ≠ "java/lang/invoke/MethodHandle" ∧ yX1_wake.cls ≠ "java/lang/invoke/VarHandle" ∧ (parseMethodDescriptor yX1_wake.desc).map (fun d => d.parameters.length) = some 1 := by decide +kernel
theorem hd_X1_exit : yX1_exit.cls = RX1 ∧ yX1_exit.cls ≠ "java/lang/invoke/MethodHandle" ∧ yX1_exit.cls ≠ "java/lang/invoke/VarHandle" ∧ (parseMethodDescriptor yX1_exit.desc).map (fun d => d.parameters.length) = some 1 := by decide +kernel
theorem hd_X1_hasExited : yX1_hasExited.cls = RX1 ∧ yX1_hasExited.cls ≠ "java/lang/invoke/MethodHandle" ∧ yX1_hasExited.cls ≠ "java/lang/invoke/VarHandle" ∧ (parseMethodDescriptor yX1_hasExited.desc).map (fun d => d.parameters.length) = some 1 := by decide +kernel
theorem hd_X1_setWeight : yX1_setWeight.cls = RX1 ∧ yX1_setWeight.cls ≠ "java/lang/invoke/MethodHandle" ∧ yX1_setWeight.cls ≠ "java/lang/invoke/VarHandle" ∧ (parseMethodDescriptor yX1_setWeight.desc).map (fun d => d.parameters.length) = some 2 := by decide +kernel
theorem hd_X1_setCookie : yX1_setCookie.cls = RX1 ∧ yX1_setCookie.cls ≠ "java/lang/invoke/MethodHandle" ∧ yX1_setCookie.cls ≠ "java/lang/invoke/VarHandle" ∧ (parseMethodDescriptor yX1_setCookie.desc).map (fun d => d.parameters.length) = some 2 := by decide +kernel
theorem hd_X1_moveTask : yX1_moveTask.cls = RX1 ∧ yX1_moveTask.cls ≠ "java/lang/invoke/MethodHandle" ∧ yX1_moveTask.cls ≠ "java/lang/invoke/VarHandle" ∧ (parseMethodDescriptor yX1_moveTask.desc).map (fun d => d.parameters.length) = some 2 := by decide +kernel
theorem hd_X1_taskCount : yX1_taskCount.cls = RX1 ∧ yX1_taskCount.cls ≠ "java/lang/invoke/MethodHandle" ∧ yX1_taskCount.cls ≠ "java/lang/invoke/VarHandle" ∧ (parseMethodDescriptor yX1_taskCount.desc).map (fun d => d.parameters.length) = some 0 := by decide +kernel
theorem hd_X1_stateOf : yX1_stateOf.cls = RX1 ∧ yX1_stateOf.cls ≠ "java/lang/invoke/MethodHandle" ∧ yX1_stateOf.cls ≠ "java/lang/invoke/VarHandle" ∧ (parseMethodDescriptor yX1_stateOf.desc).map (fun d => d.parameters.length) = some 1 := by decide +kernel
theorem hd_X1_cpuOf : yX1_cpuOf.cls = RX1 ∧ yX1_cpuOf.cls ≠ "java/lang/invoke/MethodHandle" ∧ yX1_cpuOf.cls ≠ "java/lang/invoke/VarHandle" ∧ (parseMethodDescriptor yX1_cpuOf.desc).map (fun d => d.parameters.length) = some 1 := by decide +kernel
theorem hd_X1_virtualTime : yX1_virtualTime.cls = RX1 ∧ yX1_virtualTime.cls ≠ "java/lang/invoke/MethodHandle" ∧ yX1_virtualTime.cls ≠ "java/lang/invoke/VarHandle" ∧ (parseMethodDescriptor yX1_virtualTime.desc).map (fun d => d.parameters.length) = some 1 := by decide +kernel
theorem hd_X1_runTicks : yX1_runTicks.cls = RX1 ∧ yX1_runTicks.cls ≠ "java/lang/invoke/MethodHandle" ∧ yX1_runTicks.cls ≠ "java/lang/invoke/VarHandle" ∧ (parseMethodDescriptor yX1_runTicks.desc).map (fun d => d.parameters.length) = some 1 := by decide +kernel
theorem hd_X1_waitTicks : yX1_waitTicks.cls = RX1 ∧ yX1_waitTicks.cls ≠ "java/lang/invoke/MethodHandle" ∧ yX1_waitTicks.cls ≠ "java/lang/invoke/VarHandle" ∧ (parseMethodDescriptor yX1_waitTicks.desc).map (fun d => d.parameters.length) = some 1 := by decide +kernel
theorem hd_X1_share : yX1_share.cls = RX1 ∧ yX1_share.cls ≠ "java/lang/invoke/MethodHandle" ∧ yX1_share.cls ≠ "java/lang/invoke/VarHandle" ∧ (parseMethodDescriptor yX1_share.desc).map (fun d => d.parameters.length) = some 1 := by decide +kernel
theorem hd_X1_runningTask : yX1_runningTask.cls = RX1 ∧ yX1_runningTask.cls ≠ "java/lang/invoke/MethodHandle" ∧ yX1_runningTask.cls ≠ "java/lang/invoke/VarHandle" ∧ (parseMethodDescriptor yX1_runningTask.desc).map (fun d => d.parameters.length) = some 1 := by decide +kernel
theorem hd_X1_coreCookie : yX1_coreCookie.cls = RX1 ∧ yX1_coreCookie.cls ≠ "java/lang/invoke/MethodHandle" ∧ yX1_coreCookie.cls ≠ "java/lang/invoke/VarHandle" ∧ (parseMethodDescriptor yX1_coreCookie.desc).map (fun d => d.parameters.length) = some 1 := by decide +kernel
theorem hd_X1_noCore : yX1_noCore.cls = RX1 ∧ yX1_noCore.cls ≠ "java/lang/invoke/MethodHandle" ∧ yX1_noCore.cls ≠ "java/lang/invoke/VarHandle" ∧ (parseMethodDescriptor yX1_noCore.desc).map (fun d => d.parameters.length) = some 1 := by decide +kernel
theorem hd_X1_leaderOf : yX1_leaderOf.cls = RX1 ∧ yX1_leaderOf.cls ≠ "java/lang/invoke/MethodHandle" ∧ yX1_leaderOf.cls ≠ "java/lang/invoke/VarHandle" ∧ (parseMethodDescriptor yX1_leaderOf.desc).map (fun d => d.parameters.length) = some 1 := by decide +kernel
theorem hd_X1_queueLength : yX1_queueLength.cls = RX1 ∧ yX1_queueLength.cls ≠ "java/lang/invoke/MethodHandle" ∧ yX1_queueLength.cls ≠ "java/lang/invoke/VarHandle" ∧ (parseMethodDescriptor yX1_queueLength.desc).map (fun d => d.parameters.length) = some 1 := by decide +kernel
theorem hd_X1_queuedTask : yX1_queuedTask.cls = RX1 ∧ yX1_queuedTask.cls ≠ "java/lang/invoke/MethodHandle" ∧ yX1_queuedTask.cls ≠ "java/lang/invoke/VarHandle" ∧ (parseMethodDescriptor yX1_queuedTask.desc).map (fun d => d.parameters.length) = some 2 := by decide +kernel
theorem hd_X1_baseOf : yX1_baseOf.cls = RX1 ∧ yX1_baseOf.cls ≠ "java/lang/invoke/MethodHandle" ∧ yX1_baseOf.cls ≠ "java/lang/invoke/VarHandle" ∧ (parseMethodDescriptor yX1_baseOf.desc).map (fun d => d.parameters.length) = some 1 := by decide +kernel
theorem hd_X1_idleTicks : yX1_idleTicks.cls = RX1 ∧ yX1_idleTicks.cls ≠ "java/lang/invoke/MethodHandle" ∧ yX1_idleTicks.cls ≠ "java/lang/invoke/VarHandle" ∧ (parseMethodDescriptor yX1_idleTicks.desc).map (fun d => d.parameters.length) = some 1 := by decide +kernel
theorem hd_X1_forcedIdleTicks : yX1_forcedIdleTicks.cls = RX1 ∧ yX1_forcedIdleTicks.cls ≠ "java/lang/invoke/MethodHandle" ∧ yX1_forcedIdleTicks.cls ≠ "java/lang/invoke/VarHandle" ∧ (parseMethodDescriptor yX1_forcedIdleTicks.desc).map (fun d => d.parameters.length) = some 1 := by decide +kernel
theorem hd_X1_stolenTasks : yX1_stolenTasks.cls = RX1 ∧ yX1_stolenTasks.cls ≠ "java/lang/invoke/MethodHandle" ∧ yX1_stolenTasks.cls ≠ "java/lang/invoke/VarHandle" ∧ (parseMethodDescriptor yX1_stolenTasks.desc).map (fun d => d.parameters.length) = some 0 := by decide +kernel
theorem hd_L_reset : yL_reset.cls = RL ∧ yL_reset.cls ≠ "java/lang/invoke/MethodHandle" ∧ yL_reset.cls ≠ "java/lang/invoke/VarHandle" ∧ (parseMethodDescriptor yL_reset.desc).map (fun d => d.parameters.length) = some 3 := by decide +kernel
theorem hd_L_tick : yL_tick.cls = RL ∧ yL_tick.cls ≠ "java/lang/invoke/MethodHandle" ∧ yL_tick.cls ≠ "java/lang/invoke/VarHandle" ∧ (parseMethodDescriptor yL_tick.desc).map (fun d => d.parameters.length) = some 3 := by decide +kernel
theorem hd_L_createTask : yL_createTask.cls = RL ∧ yL_createTask.cls ≠ "java/lang/invoke/MethodHandle" ∧ yL_createTask.cls ≠ "java/lang/invoke/VarHandle" ∧ (parseMethodDescriptor yL_createTask.desc).map (fun d => d.parameters.length) = some 5 := by decide +kernel
theorem hd_L_sleep : yL_sleep.cls = RL ∧ yL_sleep.cls ≠ "java/lang/invoke/MethodHandle" ∧ yL_sleep.cls ≠ "java/lang/invoke/VarHandle" ∧ (parseMethodDescriptor yL_sleep.desc).map (fun d => d.parameters.length) = some 3 := by decide +kernel
theorem hd_L_wake : yL_wake.cls = RL ∧ yL_wake.cls ≠ "java/lang/invoke/MethodHandle" ∧ yL_wake.cls ≠ "java/lang/invoke/VarHandle" ∧ (parseMethodDescriptor yL_wake.desc).map (fun d => d.parameters.length) = some 3 := by decide +kernel
theorem hd_L_exit : yL_exit.cls = RL ∧ yL_exit.cls ≠ "java/lang/invoke/MethodHandle" ∧ yL_exit.cls ≠ "java/lang/invoke/VarHandle" ∧ (parseMethodDescriptor yL_exit.desc).map (fun d => d.parameters.length) = some 3 := by decide +kernel
theorem hd_L_setWeight : yL_setWeight.cls = RL ∧ yL_setWeight.cls ≠ "java/lang/invoke/MethodHandle" ∧ yL_setWeight.cls ≠ "java/lang/invoke/VarHandle" ∧ (parseMethodDescriptor yL_setWeight.desc).map (fun d => d.parameters.length) = some 4 := by decide +kernel
theorem hd_L_setCookie : yL_setCookie.cls = RL ∧ yL_setCookie.cls ≠ "java/lang/invoke/MethodHandle" ∧ yL_setCookie.cls ≠ "java/lang/invoke/VarHandle" ∧ (parseMethodDescriptor yL_setCookie.desc).map (fun d => d.parameters.length) = some 4 := by decide +kernel
theorem hd_L_moveTask : yL_moveTask.cls = RL ∧ yL_moveTask.cls ≠ "java/lang/invoke/MethodHandle" ∧ yL_moveTask.cls ≠ "java/lang/invoke/VarHandle" ∧ (parseMethodDescriptor yL_moveTask.desc).map (fun d => d.parameters.length) = some 4 := by decide +kernel
theorem hd_L_stateOf : yL_stateOf.cls = RL ∧ yL_stateOf.cls ≠ "java/lang/invoke/MethodHandle" ∧ yL_stateOf.cls ≠ "java/lang/invoke/VarHandle" ∧ (parseMethodDescriptor yL_stateOf.desc).map (fun d => d.parameters.length) = some 3 := by decide +kernel
theorem hd_L_cpuOf : yL_cpuOf.cls = RL ∧ yL_cpuOf.cls ≠ "java/lang/invoke/MethodHandle" ∧ yL_cpuOf.cls ≠ "java/lang/invoke/VarHandle" ∧ (parseMethodDescriptor yL_cpuOf.desc).map (fun d => d.parameters.length) = some 3 := by decide +kernel
theorem hd_L_virtualTime : yL_virtualTime.cls = RL ∧ yL_virtualTime.cls ≠ "java/lang/invoke/MethodHandle" ∧ yL_virtualTime.cls ≠ "java/lang/invoke/VarHandle" ∧ (parseMethodDescriptor yL_virtualTime.desc).map (fun d => d.parameters.length) = some 3 := by decide +kernel
theorem hd_L_runTicks : yL_runTicks.cls = RL ∧ yL_runTicks.cls ≠ "java/lang/invoke/MethodHandle" ∧ yL_runTicks.cls ≠ "java/lang/invoke/VarHandle" ∧ (parseMethodDescriptor yL_runTicks.desc).map (fun d => d.parameters.length) = some 3 := by decide +kernel
theorem hd_L_waitTicks : yL_waitTicks.cls = RL ∧ yL_waitTicks.cls ≠ "java/lang/invoke/MethodHandle" ∧ yL_waitTicks.cls ≠ "java/lang/invoke/VarHandle" ∧ (parseMethodDescriptor yL_waitTicks.desc).map (fun d => d.parameters.length) = some 3 := by decide +kernel
theorem hd_L_share : yL_share.cls = RL ∧ yL_share.cls ≠ "java/lang/invoke/MethodHandle" ∧ yL_share.cls ≠ "java/lang/invoke/VarHandle" ∧ (parseMethodDescriptor yL_share.desc).map (fun d => d.parameters.length) = some 3 := by decide +kernel
theorem hd_L_runningTask : yL_runningTask.cls = RL ∧ yL_runningTask.cls ≠ "java/lang/invoke/MethodHandle" ∧ yL_runningTask.cls ≠ "java/lang/invoke/VarHandle" ∧ (parseMethodDescriptor yL_runningTask.desc).map (fun d => d.parameters.length) = some 3 := by decide +kernel
theorem hd_L_coreCookie : yL_coreCookie.cls = RL ∧ yL_coreCookie.cls ≠ "java/lang/invoke/MethodHandle" ∧ yL_coreCookie.cls ≠ "java/lang/invoke/VarHandle" ∧ (parseMethodDescriptor yL_coreCookie.desc).map (fun d => d.parameters.length) = some 3 := by decide +kernel
theorem hd_L_leaderOf : yL_leaderOf.cls = RL ∧ yL_leaderOf.cls ≠ "java/lang/invoke/MethodHandle" ∧ yL_leaderOf.cls ≠ "java/lang/invoke/VarHandle" ∧ (parseMethodDescriptor yL_leaderOf.desc).map (fun d => d.parameters.length) = some 3 := by decide +kernel
theorem hd_L_queueLength : yL_queueLength.cls = RL ∧ yL_queueLength.cls ≠ "java/lang/invoke/MethodHandle" ∧ yL_queueLength.cls ≠ "java/lang/invoke/VarHandle" ∧ (parseMethodDescriptor yL_queueLength.desc).map (fun d => d.parameters.length) = some 3 := by decide +kernel
theorem hd_L_queuedTask : yL_queuedTask.cls = RL ∧ yL_queuedTask.cls ≠ "java/lang/invoke/MethodHandle" ∧ yL_queuedTask.cls ≠ "java/lang/invoke/VarHandle" ∧ (parseMethodDescriptor yL_queuedTask.desc).map (fun d => d.parameters.length) = some 4 := by decide +kernel
theorem hd_L_baseOf : yL_baseOf.cls = RL ∧ yL_baseOf.cls ≠ "java/lang/invoke/MethodHandle" ∧ yL_baseOf.cls ≠ "java/lang/invoke/VarHandle" ∧ (parseMethodDescriptor yL_baseOf.desc).map (fun d => d.parameters.length) = some 3 := by decide +kernel
theorem hd_L_idleTicks : yL_idleTicks.cls = RL ∧ yL_idleTicks.cls ≠ "java/lang/invoke/MethodHandle" ∧ yL_idleTicks.cls ≠ "java/lang/invoke/VarHandle" ∧ (parseMethodDescriptor yL_idleTicks.desc).map (fun d => d.parameters.length) = some 3 := by decide +kernel
theorem hd_L_forcedIdleTicks : yL_forcedIdleTicks.cls = RL ∧ yL_forcedIdleTicks.cls ≠ "java/lang/invoke/MethodHandle" ∧ yL_forcedIdleTicks.cls ≠ "java/lang/invoke/VarHandle" ∧ (parseMethodDescriptor yL_forcedIdleTicks.desc).map (fun d => d.parameters.length) = some 3 := by decide +kernel
theorem in_X0 : ∀ w ∈ u_ws RX0 TX0 17, w ∈ lw_all := by decide +kernel
theorem in_X1 : ∀ w ∈ u_ws RX1 TX1 18, w ∈ lw_all := by decide +kernel
end
section
/-! the picture of an object: rows of ints (by number), rows of longs, single numbers -/
abbrev St : Type := (Nat → Nat → Int32) × (Nat → Nat → Int64) × (Nat → Int32)
def sI (σ : St) (a i : Nat) (v : Int32) : St := (fun b => if b = a then upd (σ.1 a) i v else σ.1 b, σ.2.1, σ.2.2)
def sJ (σ : St) (a i : Nat) (v : Int64) : St := (σ.1, fun b => if b = a then vp_updL (σ.2.1 a) i v else σ.2.1 b, σ.2.2)
def sS (σ : St) (a : Nat) (v : Int32) : St := (σ.1, σ.2.1, fun b => if b = a then v else σ.2.2 b)
abbrev Ev : Type := va_G × ClassId × ClassId × ClassId
def ob (k : Nat) (q : Nat → Nat) (S : Nat → Int32) : va_E := match k with
  | 0 => .inr (0, [.ref (q 1), .ref (q 2), .ref (q 3), .ref (q 4), .ref (q 5), .ref (q 6), .ref (q 7), .ref (q 8), .ref (q 9), .ref (q 10), .ref (q 11), .ref (q 12), .ref (q 13), .int (S 13), .int (S 14), .int (S 15), .int (S 16)])
  | _ => .inr (1, [.int (S 17), .int (S 13), .int (S 16), .int (S 15), .ref (q 8), .ref (q 9), .ref (q 10), .ref (q 11), .ref (q 12), .ref (q 13), .int (S 14), .ref (q 1), .ref (q 2), .ref (q 3), .ref (q 4), .ref (q 5), .ref (q 6), .ref (q 7)])
def wr (E : Ev) (q : Nat → Nat) (σ : St) : va_W := [(q 1, .inl (E.2.1, 16, .inl (σ.1 0))), (q 2, .inl (E.2.1, 16, .inl (σ.1 1))), (q 3, .inl (E.2.1, 16, .inl (σ.1 2))), (q 4, .inl (E.2.1, 16, .inl (σ.1 3))), (q 5, .inl (E.2.2.1, 16, .inr (.inl (σ.2.1 4)))), (q 6, .inl (E.2.1, 16, .inl (σ.1 5))), (q 7, .inl (E.2.1, 16, .inl (σ.1 6))), (q 8, .inl (E.2.2.1, 8, .inr (.inl (σ.2.1 7)))), (q 9, .inl (E.2.1, 8, .inl (σ.1 8))), (q 10, .inl (E.2.2.2, 8, .inl (σ.1 9))), (q 11, .inl (E.2.1, 8, .inl (σ.1 10))), (q 12, .inl (E.2.1, 8, .inl (σ.1 11))), (q 13, .inl (E.2.1, 4, .inl (σ.1 12)))]
def PP (k : Nat) (E : Ev) (q : Nat → Nat) (σ : St) (H : Heap) : Prop := va_P E.1 vwCl ((q 0, ob k q σ.2.2) :: wr E q σ) H
def KK (E : Ev) (s : State) : Prop := va_K E.1 vwCl [(E.2.1, .int), (E.2.2.1, .long), (E.2.2.2, .boolean)] s
/-- the addresses of one object are apart -/
def Dq (q : Nat → Nat) : Prop := ∀ i j : Nat, i < 14 → j < 14 → q i = q j → i = j
def Aq (q : Nat → Nat) : Nat → Prop := fun a => ∃ k : Nat, k < 14 ∧ a = q k
def RK (k : Nat) : String := match k with
  | 0 => RX0
  | _ => RX1
theorem KK.moved {E : Ev} {u U : State} (hvm : u.vm.Alike U.vm) (h : KK E u) : KK E U := va_K.moved hvm h
theorem PP.key {k : Nat} {E : Ev} {q : Nat → Nat} {σ : St} (j : Nat) (x : Nat × va_E) (h : ((q 0, ob k q σ.2.2) :: wr E q σ)[j]? = some x) : j < 14 ∧ x.1 = q j := by
  match j, h with
  | 0, h => cases h; exact ⟨by decide, rfl⟩
  | 1, h => cases h; exact ⟨by decide, rfl⟩
  | 2, h => cases h; exact ⟨by decide, rfl⟩
  | 3, h => cases h; exact ⟨by decide, rfl⟩
  | 4, h => cases h; exact ⟨by decide, rfl⟩
  | 5, h => cases h; exact ⟨by decide, rfl⟩
  | 6, h => cases h; exact ⟨by decide, rfl⟩
  | 7, h => cases h; exact ⟨by decide, rfl⟩
  | 8, h => cases h; exact ⟨by decide, rfl⟩
  | 9, h => cases h; exact ⟨by decide, rfl⟩
  | 10, h => cases h; exact ⟨by decide, rfl⟩
  | 11, h => cases h; exact ⟨by decide, rfl⟩
  | 12, h => cases h; exact ⟨by decide, rfl⟩
  | 13, h => cases h; exact ⟨by decide, rfl⟩
  | j + 14, h => simp [wr] at h
theorem D0 {k : Nat} {E : Ev} {q : Nat → Nat} {σ : St} (hq : Dq q) : va_D (Aq q) ((q 0, ob k q σ.2.2) :: wr E q σ) := by
  refine ⟨fun i j x y hi hj hxy => ?_, fun j x hj => ?_⟩
  · obtain ⟨a1, a2⟩ := PP.key i x hi
    obtain ⟨b1, b2⟩ := PP.key j y hj
    exact hq i j a1 b1 (a2.symm.trans (hxy.trans b2))
  · obtain ⟨a1, a2⟩ := PP.key j x hj
    exact ⟨j, a1, a2⟩
theorem PP.recv {k : Nat} {E : Ev} {q : Nat → Nat} {σ : St} {H : Heap} {s : State} (hK : KK E s) (hP : PP k E q σ H) : ∃ cell : Cell, H[q 0]? = some cell ∧ cell.vm.isStatics = false ∧ s.vm.findClass (RK k) = some cell.cls := by
  cases k with
  | zero => exact va_recv hK hP (ci := 0) (q0 := 0) rfl rfl
  | succ k => exact va_recv hK hP (ci := 1) (q0 := 0) rfl rfl
theorem PP.kept {k : Nat} {E : Ev} {q : Nat → Nat} {σ : St} {H H1 : Heap} (hP : PP k E q σ H) (h : ∀ a : Nat, a < H.size → Aq q a → H1[a]? = H[a]?) : PP k E q σ H1 := va_P.kept hP (fun j x hj => by
  obtain ⟨a1, a2⟩ := PP.key j x hj
  exact h x.1 (hP j x hj).lt ⟨j, a1, a2⟩)
theorem PP.lt {k : Nat} {E : Ev} {q : Nat → Nat} {σ : St} {H : Heap} (hP : PP k E q σ H) (j : Nat) (hj : j < 14) : q j < H.size := by
  have hl : j < ((q 0, ob k q σ.2.2) :: wr E q σ).length := hj
  have h1 := hP j _ (List.getElem?_eq_getElem hl)
  have h2 := (PP.key j _ (List.getElem?_eq_getElem hl)).2
  rw [← h2]
  exact h1.lt
section RW
variable {p : Program} {l : Launch} {e : Env} {R : Room} {s : State} {m : MethodId} {args : Array Value} {below : List Frame} {meth : Method} {c : Code} {H : Heap} {locs : List Loc} {cells slots : Nat} {Q : State → Prop}
variable {cc : ByteArray} {pc : Nat} {ls : Array Slot} {rest : List Value} {E : Ev} {q : Nat → Nat} {σ : St} {k : Nat} {H0 : Heap} {i x : Int32} {z : Int64}
theorem ld_0 (hx : p.tables.exec = Jvm.exec) (hb : c.code = cc) (hK : KK E s) (hP : PP k E q σ H) (hin : vp_in i 16) (hdg : decode cc pc = .ok (.iaload, 1)) (kk : W p l e R s m args below meth c H locs cells slots Q (F0 m (pc + 1) ls (.int (σ.1 0 i.toNatClampNeg) :: rest))) : W p l e R s m args below meth c H locs cells slots Q (F0 m pc ls (.int i :: .ref (q 1) :: rest)) := va_iald hx hb hK hP 1 0 rfl rfl hin hdg kk
theorem st_0 (hx : p.tables.exec = Jvm.exec) (hb : c.code = cc) (hK : KK E s) (hq : Dq q) (hP : PP k E q σ H) (hS : va_S (Aq q) H0 H locs) (hin : vp_in i 16) (hdg : decode cc pc = .ok (.iastore, 1)) (kk : ∀ (H1 : Heap) (locs1 : List Loc), PP k E q (sI σ 0 i.toNatClampNeg x) H1 → va_S (Aq q) H0 H1 locs1 → W p l e R s m args below meth c H1 locs1 cells slots Q (F0 m (pc + 1) ls rest)) : W p l e R s m args below meth c H locs cells slots Q (F0 m pc ls (.int x :: .int i :: .ref (q 1) :: rest)) := va_iast hx hb hK hP (D0 hq) hS 1 0 rfl rfl hin hdg (fun H1 locs1 h1 _ h3 => kk H1 locs1 h1 h3)
theorem ld_1 (hx : p.tables.exec = Jvm.exec) (hb : c.code = cc) (hK : KK E s) (hP : PP k E q σ H) (hin : vp_in i 16) (hdg : decode cc pc = .ok (.iaload, 1)) (kk : W p l e R s m args below meth c H locs cells slots Q (F0 m (pc + 1) ls (.int (σ.1 1 i.toNatClampNeg) :: rest))) : W p l e R s m args below meth c H locs cells slots Q (F0 m pc ls (.int i :: .ref (q 2) :: rest)) := va_iald hx hb hK hP 2 0 rfl rfl hin hdg kk
theorem st_1 (hx : p.tables.exec = Jvm.exec) (hb : c.code = cc) (hK : KK E s) (hq : Dq q) (hP : PP k E q σ H) (hS : va_S (Aq q) H0 H locs) (hin : vp_in i 16) (hdg : decode cc pc = .ok (.iastore, 1)) (kk : ∀ (H1 : Heap) (locs1 : List Loc), PP k E q (sI σ 1 i.toNatClampNeg x) H1 → va_S (Aq q) H0 H1 locs1 → W p l e R s m args below meth c H1 locs1 cells slots Q (F0 m (pc + 1) ls rest)) : W p l e R s m args below meth c H locs cells slots Q (F0 m pc ls (.int x :: .int i :: .ref (q 2) :: rest)) := va_iast hx hb hK hP (D0 hq) hS 2 0 rfl rfl hin hdg (fun H1 locs1 h1 _ h3 => kk H1 locs1 h1 h3)
theorem ld_2 (hx : p.tables.exec = Jvm.exec) (hb : c.code = cc) (hK : KK E s) (hP : PP k E q σ H) (hin : vp_in i 16) (hdg : decode cc pc = .ok (.iaload, 1)) (kk : W p l e R s m args below meth c H locs cells slots Q (F0 m (pc + 1) ls (.int (σ.1 2 i.toNatClampNeg) :: rest))) : W p l e R s m args below meth c H locs cells slots Q (F0 m pc ls (.int i :: .ref (q 3) :: rest)) := va_iald hx hb hK hP 3 0 rfl rfl hin hdg kk
theorem st_2 (hx : p.tables.exec = Jvm.exec) (hb : c.code = cc) (hK : KK E s) (hq : Dq q) (hP : PP k E q σ H) (hS : va_S (Aq q) H0 H locs) (hin : vp_in i 16) (hdg : decode cc pc = .ok (.iastore, 1)) (kk : ∀ (H1 : Heap) (locs1 : List Loc), PP k E q (sI σ 2 i.toNatClampNeg x) H1 → va_S (Aq q) H0 H1 locs1 → W p l e R s m args below meth c H1 locs1 cells slots Q (F0 m (pc + 1) ls rest)) : W p l e R s m args below meth c H locs cells slots Q (F0 m pc ls (.int x :: .int i :: .ref (q 3) :: rest)) := va_iast hx hb hK hP (D0 hq) hS 3 0 rfl rfl hin hdg (fun H1 locs1 h1 _ h3 => kk H1 locs1 h1 h3)
theorem ld_3 (hx : p.tables.exec = Jvm.exec) (hb : c.code = cc) (hK : KK E s) (hP : PP k E q σ H) (hin : vp_in i 16) (hdg : decode cc pc = .ok (.iaload, 1)) (kk : W p l e R s m args below meth c H locs cells slots Q (F0 m (pc + 1) ls (.int (σ.1 3 i.toNatClampNeg) :: rest))) : W p l e R s m args below meth c H locs cells slots Q (F0 m pc ls (.int i :: .ref (q 4) :: rest)) := va_iald hx hb hK hP 4 0 rfl rfl hin hdg kk
theorem st_3 (hx : p.tables.exec = Jvm.exec) (hb : c.code = cc) (hK : KK E s) (hq : Dq q) (hP : PP k E q σ H) (hS : va_S (Aq q) H0 H locs) (hin : vp_in i 16) (hdg : decode cc pc = .ok (.iastore, 1)) (kk : ∀ (H1 : Heap) (locs1 : List Loc), PP k E q (sI σ 3 i.toNatClampNeg x) H1 → va_S (Aq q) H0 H1 locs1 → W p l e R s m args below meth c H1 locs1 cells slots Q (F0 m (pc + 1) ls rest)) : W p l e R s m args below meth c H locs cells slots Q (F0 m pc ls (.int x :: .int i :: .ref (q 4) :: rest)) := va_iast hx hb hK hP (D0 hq) hS 4 0 rfl rfl hin hdg (fun H1 locs1 h1 _ h3 => kk H1 locs1 h1 h3)
theorem ld_4 (hx : p.tables.exec = Jvm.exec) (hb : c.code = cc) (hK : KK E s) (hP : PP k E q σ H) (hin : vp_in i 16) (hdg : decode cc pc = .ok (.laload, 1)) (kk : W p l e R s m args below meth c H locs cells slots Q (F0 m (pc + 1) ls (.long (σ.2.1 4 i.toNatClampNeg) :: rest))) : W p l e R s m args below meth c H locs cells slots Q (F0 m pc ls (.int i :: .ref (q 5) :: rest)) := va_lald hx hb hK hP 5 1 rfl rfl hin hdg kk
theorem st_4 (hx : p.tables.exec = Jvm.exec) (hb : c.code = cc) (hK : KK E s) (hq : Dq q) (hP : PP k E q σ H) (hS : va_S (Aq q) H0 H locs) (hin : vp_in i 16) (hdg : decode cc pc = .ok (.lastore, 1)) (kk : ∀ (H1 : Heap) (locs1 : List Loc), PP k E q (sJ σ 4 i.toNatClampNeg z) H1 → va_S (Aq q) H0 H1 locs1 → W p l e R s m args below meth c H1 locs1 cells slots Q (F0 m (pc + 1) ls rest)) : W p l e R s m args below meth c H locs cells slots Q (F0 m pc ls (.long z :: .int i :: .ref (q 5) :: rest)) := va_last hx hb hK hP (D0 hq) hS 5 1 rfl rfl hin hdg (fun H1 locs1 h1 _ h3 => kk H1 locs1 h1 h3)
theorem ld_5 (hx : p.tables.exec = Jvm.exec) (hb : c.code = cc) (hK : KK E s) (hP : PP k E q σ H) (hin : vp_in i 16) (hdg : decode cc pc = .ok (.iaload, 1)) (kk : W p l e R s m args below meth c H locs cells slots Q (F0 m (pc + 1) ls (.int (σ.1 5 i.toNatClampNeg) :: rest))) : W p l e R s m args below meth c H locs cells slots Q (F0 m pc ls (.int i :: .ref (q 6) :: rest)) := va_iald hx hb hK hP 6 0 rfl rfl hin hdg kk
theorem st_5 (hx : p.tables.exec = Jvm.exec) (hb : c.code = cc) (hK : KK E s) (hq : Dq q) (hP : PP k E q σ H) (hS : va_S (Aq q) H0 H locs) (hin : vp_in i 16) (hdg : decode cc pc = .ok (.iastore, 1)) (kk : ∀ (H1 : Heap) (locs1 : List Loc), PP k E q (sI σ 5 i.toNatClampNeg x) H1 → va_S (Aq q) H0 H1 locs1 → W p l e R s m args below meth c H1 locs1 cells slots Q (F0 m (pc + 1) ls rest)) : W p l e R s m args below meth c H locs cells slots Q (F0 m pc ls (.int x :: .int i :: .ref (q 6) :: rest)) := va_iast hx hb hK hP (D0 hq) hS 6 0 rfl rfl hin hdg (fun H1 locs1 h1 _ h3 => kk H1 locs1 h1 h3)
theorem ld_6 (hx : p.tables.exec = Jvm.exec) (hb : c.code = cc) (hK : KK E s) (hP : PP k E q σ H) (hin : vp_in i 16) (hdg : decode cc pc = .ok (.iaload, 1)) (kk : W p l e R s m args below meth c H locs cells slots Q (F0 m (pc + 1) ls (.int (σ.1 6 i.toNatClampNeg) :: rest))) : W p l e R s m args below meth c H locs cells slots Q (F0 m pc ls (.int i :: .ref (q 7) :: rest)) := va_iald hx hb hK hP 7 0 rfl rfl hin hdg kk
theorem st_6 (hx : p.tables.exec = Jvm.exec) (hb : c.code = cc) (hK : KK E s) (hq : Dq q) (hP : PP k E q σ H) (hS : va_S (Aq q) H0 H locs) (hin : vp_in i 16) (hdg : decode cc pc = .ok (.iastore, 1)) (kk : ∀ (H1 : Heap) (locs1 : List Loc), PP k E q (sI σ 6 i.toNatClampNeg x) H1 → va_S (Aq q) H0 H1 locs1 → W p l e R s m args below meth c H1 locs1 cells slots Q (F0 m (pc + 1) ls rest)) : W p l e R s m args below meth c H locs cells slots Q (F0 m pc ls (.int x :: .int i :: .ref (q 7) :: rest)) := va_iast hx hb hK hP (D0 hq) hS 7 0 rfl rfl hin hdg (fun H1 locs1 h1 _ h3 => kk H1 locs1 h1 h3)
theorem ld_7 (hx : p.tables.exec = Jvm.exec) (hb : c.code = cc) (hK : KK E s) (hP : PP k E q σ H) (hin : vp_in i 8) (hdg : decode cc pc = .ok (.laload, 1)) (kk : W p l e R s m args below meth c H locs cells slots Q (F0 m (pc + 1) ls (.long (σ.2.1 7 i.toNatClampNeg) :: rest))) : W p l e R s m args below meth c H locs cells slots Q (F0 m pc ls (.int i :: .ref (q 8) :: rest)) := va_lald hx hb hK hP 8 1 rfl rfl hin hdg kk
theorem st_7 (hx : p.tables.exec = Jvm.exec) (hb : c.code = cc) (hK : KK E s) (hq : Dq q) (hP : PP k E q σ H) (hS : va_S (Aq q) H0 H locs) (hin : vp_in i 8) (hdg : decode cc pc = .ok (.lastore, 1)) (kk : ∀ (H1 : Heap) (locs1 : List Loc), PP k E q (sJ σ 7 i.toNatClampNeg z) H1 → va_S (Aq q) H0 H1 locs1 → W p l e R s m args below meth c H1 locs1 cells slots Q (F0 m (pc + 1) ls rest)) : W p l e R s m args below meth c H locs cells slots Q (F0 m pc ls (.long z :: .int i :: .ref (q 8) :: rest)) := va_last hx hb hK hP (D0 hq) hS 8 1 rfl rfl hin hdg (fun H1 locs1 h1 _ h3 => kk H1 locs1 h1 h3)
theorem ld_8 (hx : p.tables.exec = Jvm.exec) (hb : c.code = cc) (hK : KK E s) (hP : PP k E q σ H) (hin : vp_in i 8) (hdg : decode cc pc = .ok (.iaload, 1)) (kk : W p l e R s m args below meth c H locs cells slots Q (F0 m (pc + 1) ls (.int (σ.1 8 i.toNatClampNeg) :: rest))) : W p l e R s m args below meth c H locs cells slots Q (F0 m pc ls (.int i :: .ref (q 9) :: rest)) := va_iald hx hb hK hP 9 0 rfl rfl hin hdg kk
theorem st_8 (hx : p.tables.exec = Jvm.exec) (hb : c.code = cc) (hK : KK E s) (hq : Dq q) (hP : PP k E q σ H) (hS : va_S (Aq q) H0 H locs) (hin : vp_in i 8) (hdg : decode cc pc = .ok (.iastore, 1)) (kk : ∀ (H1 : Heap) (locs1 : List Loc), PP k E q (sI σ 8 i.toNatClampNeg x) H1 → va_S (Aq q) H0 H1 locs1 → W p l e R s m args below meth c H1 locs1 cells slots Q (F0 m (pc + 1) ls rest)) : W p l e R s m args below meth c H locs cells slots Q (F0 m pc ls (.int x :: .int i :: .ref (q 9) :: rest)) := va_iast hx hb hK hP (D0 hq) hS 9 0 rfl rfl hin hdg (fun H1 locs1 h1 _ h3 => kk H1 locs1 h1 h3)
theorem ld_9 (hx : p.tables.exec = Jvm.exec) (hb : c.code = cc) (hK : KK E s) (hP : PP k E q σ H) (hin : vp_in i 8) (hdg : decode cc pc = .ok (.baload, 1)) (kk : W p l e R s m args below meth c H locs cells slots Q (F0 m (pc + 1) ls (.int (σ.1 9 i.toNatClampNeg) :: rest))) : W p l e R s m args below meth c H locs cells slots Q (F0 m pc ls (.int i :: .ref (q 10) :: rest)) := va_zald hx hb hK hP 10 2 rfl rfl hin hdg kk
theorem st_9 (hx : p.tables.exec = Jvm.exec) (hb : c.code = cc) (hK : KK E s) (hq : Dq q) (hP : PP k E q σ H) (hS : va_S (Aq q) H0 H locs) (hin : vp_in i 8) (hdg : decode cc pc = .ok (.bastore, 1)) (kk : ∀ (H1 : Heap) (locs1 : List Loc), PP k E q (sI σ 9 i.toNatClampNeg (vp_nar .boolean x)) H1 → va_S (Aq q) H0 H1 locs1 → W p l e R s m args below meth c H1 locs1 cells slots Q (F0 m (pc + 1) ls rest)) : W p l e R s m args below meth c H locs cells slots Q (F0 m pc ls (.int x :: .int i :: .ref (q 10) :: rest)) := va_zast hx hb hK hP (D0 hq) hS 10 2 rfl rfl hin hdg (fun H1 locs1 h1 _ h3 => kk H1 locs1 h1 h3)
theorem ld_10 (hx : p.tables.exec = Jvm.exec) (hb : c.code = cc) (hK : KK E s) (hP : PP k E q σ H) (hin : vp_in i 8) (hdg : decode cc pc = .ok (.iaload, 1)) (kk : W p l e R s m args below meth c H locs cells slots Q (F0 m (pc + 1) ls (.int (σ.1 10 i.toNatClampNeg) :: rest))) : W p l e R s m args below meth c H locs cells slots Q (F0 m pc ls (.int i :: .ref (q 11) :: rest)) := va_iald hx hb hK hP 11 0 rfl rfl hin hdg kk
theorem st_10 (hx : p.tables.exec = Jvm.exec) (hb : c.code = cc) (hK : KK E s) (hq : Dq q) (hP : PP k E q σ H) (hS : va_S (Aq q) H0 H locs) (hin : vp_in i 8) (hdg : decode cc pc = .ok (.iastore, 1)) (kk : ∀ (H1 : Heap) (locs1 : List Loc), PP k E q (sI σ 10 i.toNatClampNeg x) H1 → va_S (Aq q) H0 H1 locs1 → W p l e R s m args below meth c H1 locs1 cells slots Q (F0 m (pc + 1) ls rest)) : W p l e R s m args below meth c H locs cells slots Q (F0 m pc ls (.int x :: .int i :: .ref (q 11) :: rest)) := va_iast hx hb hK hP (D0 hq) hS 11 0 rfl rfl hin hdg (fun H1 locs1 h1 _ h3 => kk H1 locs1 h1 h3)
theorem ld_11 (hx : p.tables.exec = Jvm.exec) (hb : c.code = cc) (hK : KK E s) (hP : PP k E q σ H) (hin : vp_in i 8) (hdg : decode cc pc = .ok (.iaload, 1)) (kk : W p l e R s m args below meth c H locs cells slots Q (F0 m (pc + 1) ls (.int (σ.1 11 i.toNatClampNeg) :: rest))) : W p l e R s m args below meth c H locs cells slots Q (F0 m pc ls (.int i :: .ref (q 12) :: rest)) := va_iald hx hb hK hP 12 0 rfl rfl hin hdg kk
theorem st_11 (hx : p.tables.exec = Jvm.exec) (hb : c.code = cc) (hK : KK E s) (hq : Dq q) (hP : PP k E q σ H) (hS : va_S (Aq q) H0 H locs) (hin : vp_in i 8) (hdg : decode cc pc = .ok (.iastore, 1)) (kk : ∀ (H1 : Heap) (locs1 : List Loc), PP k E q (sI σ 11 i.toNatClampNeg x) H1 → va_S (Aq q) H0 H1 locs1 → W p l e R s m args below meth c H1 locs1 cells slots Q (F0 m (pc + 1) ls rest)) : W p l e R s m args below meth c H locs cells slots Q (F0 m pc ls (.int x :: .int i :: .ref (q 12) :: rest)) := va_iast hx hb hK hP (D0 hq) hS 12 0 rfl rfl hin hdg (fun H1 locs1 h1 _ h3 => kk H1 locs1 h1 h3)
theorem ld_12 (hx : p.tables.exec = Jvm.exec) (hb : c.code = cc) (hK : KK E s) (hP : PP k E q σ H) (hin : vp_in i 4) (hdg : decode cc pc = .ok (.iaload, 1)) (kk : W p l e R s m args below meth c H locs cells slots Q (F0 m (pc + 1) ls (.int (σ.1 12 i.toNatClampNeg) :: rest))) : W p l e R s m args below meth c H locs cells slots Q (F0 m pc ls (.int i :: .ref (q 13) :: rest)) := va_iald hx hb hK hP 13 0 rfl rfl hin hdg kk
theorem st_12 (hx : p.tables.exec = Jvm.exec) (hb : c.code = cc) (hK : KK E s) (hq : Dq q) (hP : PP k E q σ H) (hS : va_S (Aq q) H0 H locs) (hin : vp_in i 4) (hdg : decode cc pc = .ok (.iastore, 1)) (kk : ∀ (H1 : Heap) (locs1 : List Loc), PP k E q (sI σ 12 i.toNatClampNeg x) H1 → va_S (Aq q) H0 H1 locs1 → W p l e R s m args below meth c H1 locs1 cells slots Q (F0 m (pc + 1) ls rest)) : W p l e R s m args below meth c H locs cells slots Q (F0 m pc ls (.int x :: .int i :: .ref (q 13) :: rest)) := va_iast hx hb hK hP (D0 hq) hS 13 0 rfl rfl hin hdg (fun H1 locs1 h1 _ h3 => kk H1 locs1 h1 h3)
theorem gf_X0_9 (hx : p.tables.exec = Jvm.exec) (hb : c.code = cc) (hts : ∀ w ∈ lw_all, w.before args s = true) (hown : s.vm.findClass RX0 = some m.cls) (hK : KK E s) (hP : PP 0 E q σ H) (hdg : decode cc pc = .ok (.getfield 9, 3)) (kk : W p l e R s m args below meth c H locs cells slots Q (F0 m (pc + 3) ls (.ref (q 1) :: rest))) : W p l e R s m args below meth c H locs cells slots Q (F0 m pc ls (.ref (q 0) :: rest)) := va_get (D := E.1) (ci := 0) (C := RX0) (T := TX0) (N := 17) hx hb hts in_X0 hown hK hP 0 rfl rfl 0 (by decide) (hts _ fl_X0_9) (fun _ h => h) rfl hdg kk
theorem gf_X0_13 (hx : p.tables.exec = Jvm.exec) (hb : c.code = cc) (hts : ∀ w ∈ lw_all, w.before args s = true) (hown : s.vm.findClass RX0 = some m.cls) (hK : KK E s) (hP : PP 0 E q σ H) (hdg : decode cc pc = .ok (.getfield 13, 3)) (kk : W p l e R s m args below meth c H locs cells slots Q (F0 m (pc + 3) ls (.ref (q 2) :: rest))) : W p l e R s m args below meth c H locs cells slots Q (F0 m pc ls (.ref (q 0) :: rest)) := va_get (D := E.1) (ci := 0) (C := RX0) (T := TX0) (N := 17) hx hb hts in_X0 hown hK hP 0 rfl rfl 1 (by decide) (hts _ fl_X0_13) (fun _ h => h) rfl hdg kk
theorem gf_X0_16 (hx : p.tables.exec = Jvm.exec) (hb : c.code = cc) (hts : ∀ w ∈ lw_all, w.before args s = true) (hown : s.vm.findClass RX0 = some m.cls) (hK : KK E s) (hP : PP 0 E q σ H) (hdg : decode cc pc = .ok (.getfield 16, 3)) (kk : W p l e R s m args below meth c H locs cells slots Q (F0 m (pc + 3) ls (.ref (q 3) :: rest))) : W p l e R s m args below meth c H locs cells slots Q (F0 m pc ls (.ref (q 0) :: rest)) := va_get (D := E.1) (ci := 0) (C := RX0) (T := TX0) (N := 17) hx hb hts in_X0 hown hK hP 0 rfl rfl 2 (by decide) (hts _ fl_X0_16) (fun _ h => h) rfl hdg kk
theorem gf_X0_19 (hx : p.tables.exec = Jvm.exec) (hb : c.code = cc) (hts : ∀ w ∈ lw_all, w.before args s = true) (hown : s.vm.findClass RX0 = some m.cls) (hK : KK E s) (hP : PP 0 E q σ H) (hdg : decode cc pc = .ok (.getfield 19, 3)) (kk : W p l e R s m args below meth c H locs cells slots Q (F0 m (pc + 3) ls (.ref (q 4) :: rest))) : W p l e R s m args below meth c H locs cells slots Q (F0 m pc ls (.ref (q 0) :: rest)) := va_get (D := E.1) (ci := 0) (C := RX0) (T := TX0) (N := 17) hx hb hts in_X0 hown hK hP 0 rfl rfl 3 (by decide) (hts _ fl_X0_19) (fun _ h => h) rfl hdg kk
theorem gf_X0_22 (hx : p.tables.exec = Jvm.exec) (hb : c.code = cc) (hts : ∀ w ∈ lw_all, w.before args s = true) (hown : s.vm.findClass RX0 = some m.cls) (hK : KK E s) (hP : PP 0 E q σ H) (hdg : decode cc pc = .ok (.getfield 22, 3)) (kk : W p l e R s m args below meth c H locs cells slots Q (F0 m (pc + 3) ls (.ref (q 5) :: rest))) : W p l e R s m args below meth c H locs cells slots Q (F0 m pc ls (.ref (q 0) :: rest)) := va_get (D := E.1) (ci := 0) (C := RX0) (T := TX0) (N := 17) hx hb hts in_X0 hown hK hP 0 rfl rfl 4 (by decide) (hts _ fl_X0_22) (fun _ h => h) rfl hdg kk
theorem gf_X0_26 (hx : p.tables.exec = Jvm.exec) (hb : c.code = cc) (hts : ∀ w ∈ lw_all, w.before args s = true) (hown : s.vm.findClass RX0 = some m.cls) (hK : KK E s) (hP : PP 0 E q σ H) (hdg : decode cc pc = .ok (.getfield 26, 3)) (kk : W p l e R s m args below meth c H locs cells slots Q (F0 m (pc + 3) ls (.ref (q 6) :: rest))) : W p l e R s m args below meth c H locs cells slots Q (F0 m pc ls (.ref (q 0) :: rest)) := va_get (D := E.1) (ci := 0) (C := RX0) (T := TX0) (N := 17) hx hb hts in_X0 hown hK hP 0 rfl rfl 5 (by decide) (hts _ fl_X0_26) (fun _ h => h) rfl hdg kk
theorem gf_X0_29 (hx : p.tables.exec = Jvm.exec) (hb : c.code = cc) (hts : ∀ w ∈ lw_all, w.before args s = true) (hown : s.vm.findClass RX0 = some m.cls) (hK : KK E s) (hP : PP 0 E q σ H) (hdg : decode cc pc = .ok (.getfield 29, 3)) (kk : W p l e R s m args below meth c H locs cells slots Q (F0 m (pc + 3) ls (.ref (q 7) :: rest))) : W p l e R s m args below meth c H locs cells slots Q (F0 m pc ls (.ref (q 0) :: rest)) := va_get (D := E.1) (ci := 0) (C := RX0) (T := TX0) (N := 17) hx hb hts in_X0 hown hK hP 0 rfl rfl 6 (by decide) (hts _ fl_X0_29) (fun _ h => h) rfl hdg kk
theorem gf_X0_32 (hx : p.tables.exec = Jvm.exec) (hb : c.code = cc) (hts : ∀ w ∈ lw_all, w.before args s = true) (hown : s.vm.findClass RX0 = some m.cls) (hK : KK E s) (hP : PP 0 E q σ H) (hdg : decode cc pc = .ok (.getfield 32, 3)) (kk : W p l e R s m args below meth c H locs cells slots Q (F0 m (pc + 3) ls (.ref (q 8) :: rest))) : W p l e R s m args below meth c H locs cells slots Q (F0 m pc ls (.ref (q 0) :: rest)) := va_get (D := E.1) (ci := 0) (C := RX0) (T := TX0) (N := 17) hx hb hts in_X0 hown hK hP 0 rfl rfl 7 (by decide) (hts _ fl_X0_32) (fun _ h => h) rfl hdg kk
theorem gf_X0_35 (hx : p.tables.exec = Jvm.exec) (hb : c.code = cc) (hts : ∀ w ∈ lw_all, w.before args s = true) (hown : s.vm.findClass RX0 = some m.cls) (hK : KK E s) (hP : PP 0 E q σ H) (hdg : decode cc pc = .ok (.getfield 35, 3)) (kk : W p l e R s m args below meth c H locs cells slots Q (F0 m (pc + 3) ls (.ref (q 9) :: rest))) : W p l e R s m args below meth c H locs cells slots Q (F0 m pc ls (.ref (q 0) :: rest)) := va_get (D := E.1) (ci := 0) (C := RX0) (T := TX0) (N := 17) hx hb hts in_X0 hown hK hP 0 rfl rfl 8 (by decide) (hts _ fl_X0_35) (fun _ h => h) rfl hdg kk
theorem gf_X0_38 (hx : p.tables.exec = Jvm.exec) (hb : c.code = cc) (hts : ∀ w ∈ lw_all, w.before args s = true) (hown : s.vm.findClass RX0 = some m.cls) (hK : KK E s) (hP : PP 0 E q σ H) (hdg : decode cc pc = .ok (.getfield 38, 3)) (kk : W p l e R s m args below meth c H locs cells slots Q (F0 m (pc + 3) ls (.ref (q 10) :: rest))) : W p l e R s m args below meth c H locs cells slots Q (F0 m pc ls (.ref (q 0) :: rest)) := va_get (D := E.1) (ci := 0) (C := RX0) (T := TX0) (N := 17) hx hb hts in_X0 hown hK hP 0 rfl rfl 9 (by decide) (hts _ fl_X0_38) (fun _ h => h) rfl hdg kk
theorem gf_X0_42 (hx : p.tables.exec = Jvm.exec) (hb : c.code = cc) (hts : ∀ w ∈ lw_all, w.before args s = true) (hown : s.vm.findClass RX0 = some m.cls) (hK : KK E s) (hP : PP 0 E q σ H) (hdg : decode cc pc = .ok (.getfield 42, 3)) (kk : W p l e R s m args below meth c H locs cells slots Q (F0 m (pc + 3) ls (.ref (q 11) :: rest))) : W p l e R s m args below meth c H locs cells slots Q (F0 m pc ls (.ref (q 0) :: rest)) := va_get (D := E.1) (ci := 0) (C := RX0) (T := TX0) (N := 17) hx hb hts in_X0 hown hK hP 0 rfl rfl 10 (by decide) (hts _ fl_X0_42) (fun _ h => h) rfl hdg kk
theorem gf_X0_45 (hx : p.tables.exec = Jvm.exec) (hb : c.code = cc) (hts : ∀ w ∈ lw_all, w.before args s = true) (hown : s.vm.findClass RX0 = some m.cls) (hK : KK E s) (hP : PP 0 E q σ H) (hdg : decode cc pc = .ok (.getfield 45, 3)) (kk : W p l e R s m args below meth c H locs cells slots Q (F0 m (pc + 3) ls (.ref (q 12) :: rest))) : W p l e R s m args below meth c H locs cells slots Q (F0 m pc ls (.ref (q 0) :: rest)) := va_get (D := E.1) (ci := 0) (C := RX0) (T := TX0) (N := 17) hx hb hts in_X0 hown hK hP 0 rfl rfl 11 (by decide) (hts _ fl_X0_45) (fun _ h => h) rfl hdg kk
theorem gf_X0_48 (hx : p.tables.exec = Jvm.exec) (hb : c.code = cc) (hts : ∀ w ∈ lw_all, w.before args s = true) (hown : s.vm.findClass RX0 = some m.cls) (hK : KK E s) (hP : PP 0 E q σ H) (hdg : decode cc pc = .ok (.getfield 48, 3)) (kk : W p l e R s m args below meth c H locs cells slots Q (F0 m (pc + 3) ls (.ref (q 13) :: rest))) : W p l e R s m args below meth c H locs cells slots Q (F0 m pc ls (.ref (q 0) :: rest)) := va_get (D := E.1) (ci := 0) (C := RX0) (T := TX0) (N := 17) hx hb hts in_X0 hown hK hP 0 rfl rfl 12 (by decide) (hts _ fl_X0_48) (fun _ h => h) rfl hdg kk
theorem gf_X0_62 (hx : p.tables.exec = Jvm.exec) (hb : c.code = cc) (hts : ∀ w ∈ lw_all, w.before args s = true) (hown : s.vm.findClass RX0 = some m.cls) (hK : KK E s) (hP : PP 0 E q σ H) (hdg : decode cc pc = .ok (.getfield 62, 3)) (kk : W p l e R s m args below meth c H locs cells slots Q (F0 m (pc + 3) ls (.int (σ.2.2 13) :: rest))) : W p l e R s m args below meth c H locs cells slots Q (F0 m pc ls (.ref (q 0) :: rest)) := va_get (D := E.1) (ci := 0) (C := RX0) (T := TX0) (N := 17) hx hb hts in_X0 hown hK hP 0 rfl rfl 13 (by decide) (hts _ fl_X0_62) (fun _ h => h) rfl hdg kk
theorem pf_X0_62 (hx : p.tables.exec = Jvm.exec) (hb : c.code = cc) (hts : ∀ w ∈ lw_all, w.before args s = true) (hown : s.vm.findClass RX0 = some m.cls) (hK : KK E s) (hq : Dq q) (hP : PP 0 E q σ H) (hS : va_S (Aq q) H0 H locs) (hdg : decode cc pc = .ok (.putfield 62, 3)) (kk : ∀ (H1 : Heap) (locs1 : List Loc), PP 0 E q (sS σ 13 x) H1 → va_S (Aq q) H0 H1 locs1 → W p l e R s m args below meth c H1 locs1 cells slots Q (F0 m (pc + 3) ls rest)) : W p l e R s m args below meth c H locs cells slots Q (F0 m pc ls (.int x :: .ref (q 0) :: rest)) := va_put (D := E.1) (ci := 0) (v := .int x) (ty := .int) (C := RX0) (T := TX0) (N := 17) hx hb hts in_X0 tyX0 tyX0_ok nmX0 hown hK hP (D0 hq) hS 0 rfl rfl 13 (by decide) (hts _ fl_X0_62) (fun _ h => h) rfl (by decide +kernel) rfl rfl (Nat.le_of_ble_eq_true rfl) hdg (fun H1 locs1 h1 _ h3 => kk H1 locs1 h1 h3)
theorem gf_X0_85 (hx : p.tables.exec = Jvm.exec) (hb : c.code = cc) (hts : ∀ w ∈ lw_all, w.before args s = true) (hown : s.vm.findClass RX0 = some m.cls) (hK : KK E s) (hP : PP 0 E q σ H) (hdg : decode cc pc = .ok (.getfield 85, 3)) (kk : W p l e R s m args below meth c H locs cells slots Q (F0 m (pc + 3) ls (.int (σ.2.2 14) :: rest))) : W p l e R s m args below meth c H locs cells slots Q (F0 m pc ls (.ref (q 0) :: rest)) := va_get (D := E.1) (ci := 0) (C := RX0) (T := TX0) (N := 17) hx hb hts in_X0 hown hK hP 0 rfl rfl 14 (by decide) (hts _ fl_X0_85) (fun _ h => h) rfl hdg kk
theorem pf_X0_85 (hx : p.tables.exec = Jvm.exec) (hb : c.code = cc) (hts : ∀ w ∈ lw_all, w.before args s = true) (hown : s.vm.findClass RX0 = some m.cls) (hK : KK E s) (hq : Dq q) (hP : PP 0 E q σ H) (hS : va_S (Aq q) H0 H locs) (hdg : decode cc pc = .ok (.putfield 85, 3)) (kk : ∀ (H1 : Heap) (locs1 : List Loc), PP 0 E q (sS σ 14 x) H1 → va_S (Aq q) H0 H1 locs1 → W p l e R s m args below meth c H1 locs1 cells slots Q (F0 m (pc + 3) ls rest)) : W p l e R s m args below meth c H locs cells slots Q (F0 m pc ls (.int x :: .ref (q 0) :: rest)) := va_put (D := E.1) (ci := 0) (v := .int x) (ty := .int) (C := RX0) (T := TX0) (N := 17) hx hb hts in_X0 tyX0 tyX0_ok nmX0 hown hK hP (D0 hq) hS 0 rfl rfl 14 (by decide) (hts _ fl_X0_85) (fun _ h => h) rfl (by decide +kernel) rfl rfl (Nat.le_of_ble_eq_true rfl) hdg (fun H1 locs1 h1 _ h3 => kk H1 locs1 h1 h3)
theorem gf_X0_142 (hx : p.tables.exec = Jvm.exec) (hb : c.code = cc) (hts : ∀ w ∈ lw_all, w.before args s = true) (hown : s.vm.findClass RX0 = some m.cls) (hK : KK E s) (hP : PP 0 E q σ H) (hdg : decode cc pc = .ok (.getfield 142, 3)) (kk : W p l e R s m args below meth c H locs cells slots Q (F0 m (pc + 3) ls (.int (σ.2.2 15) :: rest))) : W p l e R s m args below meth c H locs cells slots Q (F0 m pc ls (.ref (q 0) :: rest)) := va_get (D := E.1) (ci := 0) (C := RX0) (T := TX0) (N := 17) hx hb hts in_X0 hown hK hP 0 rfl rfl 15 (by decide) (hts _ fl_X0_142) (fun _ h => h) rfl hdg kk
theorem pf_X0_142 (hx : p.tables.exec = Jvm.exec) (hb : c.code = cc) (hts : ∀ w ∈ lw_all, w.before args s = true) (hown : s.vm.findClass RX0 = some m.cls) (hK : KK E s) (hq : Dq q) (hP : PP 0 E q σ H) (hS : va_S (Aq q) H0 H locs) (hdg : decode cc pc = .ok (.putfield 142, 3)) (kk : ∀ (H1 : Heap) (locs1 : List Loc), PP 0 E q (sS σ 15 x) H1 → va_S (Aq q) H0 H1 locs1 → W p l e R s m args below meth c H1 locs1 cells slots Q (F0 m (pc + 3) ls rest)) : W p l e R s m args below meth c H locs cells slots Q (F0 m pc ls (.int x :: .ref (q 0) :: rest)) := va_put (D := E.1) (ci := 0) (v := .int x) (ty := .int) (C := RX0) (T := TX0) (N := 17) hx hb hts in_X0 tyX0 tyX0_ok nmX0 hown hK hP (D0 hq) hS 0 rfl rfl 15 (by decide) (hts _ fl_X0_142) (fun _ h => h) rfl (by decide +kernel) rfl rfl (Nat.le_of_ble_eq_true rfl) hdg (fun H1 locs1 h1 _ h3 => kk H1 locs1 h1 h3)
theorem gf_X0_66 (hx : p.tables.exec = Jvm.exec) (hb : c.code = cc) (hts : ∀ w ∈ lw_all, w.before args s = true) (hown : s.vm.findClass RX0 = some m.cls) (hK : KK E s) (hP : PP 0 E q σ H) (hdg : decode cc pc = .ok (.getfield 66, 3)) (kk : W p l e R s m args below meth c H locs cells slots Q (F0 m (pc + 3) ls (.int (σ.2.2 16) :: rest))) : W p l e R s m args below meth c H locs cells slots Q (F0 m pc ls (.ref (q 0) :: rest)) := va_get (D := E.1) (ci := 0) (C := RX0) (T := TX0) (N := 17) hx hb hts in_X0 hown hK hP 0 rfl rfl 16 (by decide) (hts _ fl_X0_66) (fun _ h => h) rfl hdg kk
theorem pf_X0_66 (hx : p.tables.exec = Jvm.exec) (hb : c.code = cc) (hts : ∀ w ∈ lw_all, w.before args s = true) (hown : s.vm.findClass RX0 = some m.cls) (hK : KK E s) (hq : Dq q) (hP : PP 0 E q σ H) (hS : va_S (Aq q) H0 H locs) (hn : narrow .boolean (.int x) = .int x ∧ fits .boolean (.int x) = true) (hdg : decode cc pc = .ok (.putfield 66, 3)) (kk : ∀ (H1 : Heap) (locs1 : List Loc), PP 0 E q (sS σ 16 x) H1 → va_S (Aq q) H0 H1 locs1 → W p l e R s m args below meth c H1 locs1 cells slots Q (F0 m (pc + 3) ls rest)) : W p l e R s m args below meth c H locs cells slots Q (F0 m pc ls (.int x :: .ref (q 0) :: rest)) := va_put (D := E.1) (ci := 0) (v := .int x) (ty := .boolean) (C := RX0) (T := TX0) (N := 17) hx hb hts in_X0 tyX0 tyX0_ok nmX0 hown hK hP (D0 hq) hS 0 rfl rfl 16 (by decide) (hts _ fl_X0_66) (fun _ h => h) rfl (by decide +kernel) hn.1 hn.2 (Nat.le_of_ble_eq_true rfl) hdg (fun H1 locs1 h1 _ h3 => kk H1 locs1 h1 h3)
theorem gf_X1_59 (hx : p.tables.exec = Jvm.exec) (hb : c.code = cc) (hts : ∀ w ∈ lw_all, w.before args s = true) (hown : s.vm.findClass RX1 = some m.cls) (hK : KK E s) (hP : PP 1 E q σ H) (hdg : decode cc pc = .ok (.getfield 59, 3)) (kk : W p l e R s m args below meth c H locs cells slots Q (F0 m (pc + 3) ls (.int (σ.2.2 17) :: rest))) : W p l e R s m args below meth c H locs cells slots Q (F0 m pc ls (.ref (q 0) :: rest)) := va_get (D := E.1) (ci := 1) (C := RX1) (T := TX1) (N := 18) hx hb hts in_X1 hown hK hP 0 rfl rfl 0 (by decide) (hts _ fl_X1_59) (fun _ h => h) rfl hdg kk
theorem pf_X1_59 (hx : p.tables.exec = Jvm.exec) (hb : c.code = cc) (hts : ∀ w ∈ lw_all, w.before args s = true) (hown : s.vm.findClass RX1 = some m.cls) (hK : KK E s) (hq : Dq q) (hP : PP 1 E q σ H) (hS : va_S (Aq q) H0 H locs) (hdg : decode cc pc = .ok (.putfield 59, 3)) (kk : ∀ (H1 : Heap) (locs1 : List Loc), PP 1 E q (sS σ 17 x) H1 → va_S (Aq q) H0 H1 locs1 → W p l e R s m args below meth c H1 locs1 cells slots Q (F0 m (pc + 3) ls rest)) : W p l e R s m args below meth c H locs cells slots Q (F0 m pc ls (.int x :: .ref (q 0) :: rest)) := va_put (D := E.1) (ci := 1) (v := .int x) (ty := .int) (C := RX1) (T := TX1) (N := 18) hx hb hts in_X1 tyX1 tyX1_ok nmX1 hown hK hP (D0 hq) hS 0 rfl rfl 0 (by decide) (hts _ fl_X1_59) (fun _ h => h) rfl (by decide +kernel) rfl rfl (Nat.le_of_ble_eq_true rfl) hdg (fun H1 locs1 h1 _ h3 => kk H1 locs1 h1 h3)
theorem gf_X1_7 (hx : p.tables.exec = Jvm.exec) (hb : c.code = cc) (hts : ∀ w ∈ lw_all, w.before args s = true) (hown : s.vm.findClass RX1 = some m.cls) (hK : KK E s) (hP : PP 1 E q σ H) (hdg : decode cc pc = .ok (.getfield 7, 3)) (kk : W p l e R s m args below meth c H locs cells slots Q (F0 m (pc + 3) ls (.int (σ.2.2 13) :: rest))) : W p l e R s m args below meth c H locs cells slots Q (F0 m pc ls (.ref (q 0) :: rest)) := va_get (D := E.1) (ci := 1) (C := RX1) (T := TX1) (N := 18) hx hb hts in_X1 hown hK hP 0 rfl rfl 1 (by decide) (hts _ fl_X1_7) (fun _ h => h) rfl hdg kk
theorem pf_X1_7 (hx : p.tables.exec = Jvm.exec) (hb : c.code = cc) (hts : ∀ w ∈ lw_all, w.before args s = true) (hown : s.vm.findClass RX1 = some m.cls) (hK : KK E s) (hq : Dq q) (hP : PP 1 E q σ H) (hS : va_S (Aq q) H0 H locs) (hdg : decode cc pc = .ok (.putfield 7, 3)) (kk : ∀ (H1 : Heap) (locs1 : List Loc), PP 1 E q (sS σ 13 x) H1 → va_S (Aq q) H0 H1 locs1 → W p l e R s m args below meth c H1 locs1 cells slots Q (F0 m (pc + 3) ls rest)) : W p l e R s m args below meth c H locs cells slots Q (F0 m pc ls (.int x :: .ref (q 0) :: rest)) := va_put (D := E.1) (ci := 1) (v := .int x) (ty := .int) (C := RX1) (T := TX1) (N := 18) hx hb hts in_X1 tyX1 tyX1_ok nmX1 hown hK hP (D0 hq) hS 0 rfl rfl 1 (by decide) (hts _ fl_X1_7) (fun _ h => h) rfl (by decide +kernel) rfl rfl (Nat.le_of_ble_eq_true rfl) hdg (fun H1 locs1 h1 _ h3 => kk H1 locs1 h1 h3)
theorem gf_X1_62 (hx : p.tables.exec = Jvm.exec) (hb : c.code = cc) (hts : ∀ w ∈ lw_all, w.before args s = true) (hown : s.vm.findClass RX1 = some m.cls) (hK : KK E s) (hP : PP 1 E q σ H) (hdg : decode cc pc = .ok (.getfield 62, 3)) (kk : W p l e R s m args below meth c H locs cells slots Q (F0 m (pc + 3) ls (.int (σ.2.2 16) :: rest))) : W p l e R s m args below meth c H locs cells slots Q (F0 m pc ls (.ref (q 0) :: rest)) := va_get (D := E.1) (ci := 1) (C := RX1) (T := TX1) (N := 18) hx hb hts in_X1 hown hK hP 0 rfl rfl 2 (by decide) (hts _ fl_X1_62) (fun _ h => h) rfl hdg kk
theorem pf_X1_62 (hx : p.tables.exec = Jvm.exec) (hb : c.code = cc) (hts : ∀ w ∈ lw_all, w.before args s = true) (hown : s.vm.findClass RX1 = some m.cls) (hK : KK E s) (hq : Dq q) (hP : PP 1 E q σ H) (hS : va_S (Aq q) H0 H locs) (hn : narrow .boolean (.int x) = .int x ∧ fits .boolean (.int x) = true) (hdg : decode cc pc = .ok (.putfield 62, 3)) (kk : ∀ (H1 : Heap) (locs1 : List Loc), PP 1 E q (sS σ 16 x) H1 → va_S (Aq q) H0 H1 locs1 → W p l e R s m args below meth c H1 locs1 cells slots Q (F0 m (pc + 3) ls rest)) : W p l e R s m args below meth c H locs cells slots Q (F0 m pc ls (.int x :: .ref (q 0) :: rest)) := va_put (D := E.1) (ci := 1) (v := .int x) (ty := .boolean) (C := RX1) (T := TX1) (N := 18) hx hb hts in_X1 tyX1 tyX1_ok nmX1 hown hK hP (D0 hq) hS 0 rfl rfl 2 (by decide) (hts _ fl_X1_62) (fun _ h => h) rfl (by decide +kernel) hn.1 hn.2 (Nat.le_of_ble_eq_true rfl) hdg (fun H1 locs1 h1 _ h3 => kk H1 locs1 h1 h3)
theorem gf_X1_66 (hx : p.tables.exec = Jvm.exec) (hb : c.code = cc) (hts : ∀ w ∈ lw_all, w.before args s = true) (hown : s.vm.findClass RX1 = some m.cls) (hK : KK E s) (hP : PP 1 E q σ H) (hdg : decode cc pc = .ok (.getfield 66, 3)) (kk : W p l e R s m args below meth c H locs cells slots Q (F0 m (pc + 3) ls (.int (σ.2.2 15) :: rest))) : W p l e R s m args below meth c H locs cells slots Q (F0 m pc ls (.ref (q 0) :: rest)) := va_get (D := E.1) (ci := 1) (C := RX1) (T := TX1) (N := 18) hx hb hts in_X1 hown hK hP 0 rfl rfl 3 (by decide) (hts _ fl_X1_66) (fun _ h => h) rfl hdg kk
theorem pf_X1_66 (hx : p.tables.exec = Jvm.exec) (hb : c.code = cc) (hts : ∀ w ∈ lw_all, w.before args s = true) (hown : s.vm.findClass RX1 = some m.cls) (hK : KK E s) (hq : Dq q) (hP : PP 1 E q σ H) (hS : va_S (Aq q) H0 H locs) (hdg : decode cc pc = .ok (.putfield 66, 3)) (kk : ∀ (H1 : Heap) (locs1 : List Loc), PP 1 E q (sS σ 15 x) H1 → va_S (Aq q) H0 H1 locs1 → W p l e R s m args below meth c H1 locs1 cells slots Q (F0 m (pc + 3) ls rest)) : W p l e R s m args below meth c H locs cells slots Q (F0 m pc ls (.int x :: .ref (q 0) :: rest)) := va_put (D := E.1) (ci := 1) (v := .int x) (ty := .int) (C := RX1) (T := TX1) (N := 18) hx hb hts in_X1 tyX1 tyX1_ok nmX1 hown hK hP (D0 hq) hS 0 rfl rfl 3 (by decide) (hts _ fl_X1_66) (fun _ h => h) rfl (by decide +kernel) rfl rfl (Nat.le_of_ble_eq_true rfl) hdg (fun H1 locs1 h1 _ h3 => kk H1 locs1 h1 h3)
theorem gf_X1_13 (hx : p.tables.exec = Jvm.exec) (hb : c.code = cc) (hts : ∀ w ∈ lw_all, w.before args s = true) (hown : s.vm.findClass RX1 = some m.cls) (hK : KK E s) (hP : PP 1 E q σ H) (hdg : decode cc pc = .ok (.getfield 13, 3)) (kk : W p l e R s m args below meth c H locs cells slots Q (F0 m (pc + 3) ls (.ref (q 8) :: rest))) : W p l e R s m args below meth c H locs cells slots Q (F0 m pc ls (.ref (q 0) :: rest)) := va_get (D := E.1) (ci := 1) (C := RX1) (T := TX1) (N := 18) hx hb hts in_X1 hown hK hP 0 rfl rfl 4 (by decide) (hts _ fl_X1_13) (fun _ h => h) rfl hdg kk
theorem gf_X1_17 (hx : p.tables.exec = Jvm.exec) (hb : c.code = cc) (hts : ∀ w ∈ lw_all, w.before args s = true) (hown : s.vm.findClass RX1 = some m.cls) (hK : KK E s) (hP : PP 1 E q σ H) (hdg : decode cc pc = .ok (.getfield 17, 3)) (kk : W p l e R s m args below meth c H locs cells slots Q (F0 m (pc + 3) ls (.ref (q 9) :: rest))) : W p l e R s m args below meth c H locs cells slots Q (F0 m pc ls (.ref (q 0) :: rest)) := va_get (D := E.1) (ci := 1) (C := RX1) (T := TX1) (N := 18) hx hb hts in_X1 hown hK hP 0 rfl rfl 5 (by decide) (hts _ fl_X1_17) (fun _ h => h) rfl hdg kk
theorem gf_X1_21 (hx : p.tables.exec = Jvm.exec) (hb : c.code = cc) (hts : ∀ w ∈ lw_all, w.before args s = true) (hown : s.vm.findClass RX1 = some m.cls) (hK : KK E s) (hP : PP 1 E q σ H) (hdg : decode cc pc = .ok (.getfield 21, 3)) (kk : W p l e R s m args below meth c H locs cells slots Q (F0 m (pc + 3) ls (.ref (q 10) :: rest))) : W p l e R s m args below meth c H locs cells slots Q (F0 m pc ls (.ref (q 0) :: rest)) := va_get (D := E.1) (ci := 1) (C := RX1) (T := TX1) (N := 18) hx hb hts in_X1 hown hK hP 0 rfl rfl 6 (by decide) (hts _ fl_X1_21) (fun _ h => h) rfl hdg kk
theorem gf_X1_25 (hx : p.tables.exec = Jvm.exec) (hb : c.code = cc) (hts : ∀ w ∈ lw_all, w.before args s = true) (hown : s.vm.findClass RX1 = some m.cls) (hK : KK E s) (hP : PP 1 E q σ H) (hdg : decode cc pc = .ok (.getfield 25, 3)) (kk : W p l e R s m args below meth c H locs cells slots Q (F0 m (pc + 3) ls (.ref (q 11) :: rest))) : W p l e R s m args below meth c H locs cells slots Q (F0 m pc ls (.ref (q 0) :: rest)) := va_get (D := E.1) (ci := 1) (C := RX1) (T := TX1) (N := 18) hx hb hts in_X1 hown hK hP 0 rfl rfl 7 (by decide) (hts _ fl_X1_25) (fun _ h => h) rfl hdg kk
theorem gf_X1_28 (hx : p.tables.exec = Jvm.exec) (hb : c.code = cc) (hts : ∀ w ∈ lw_all, w.before args s = true) (hown : s.vm.findClass RX1 = some m.cls) (hK : KK E s) (hP : PP 1 E q σ H) (hdg : decode cc pc = .ok (.getfield 28, 3)) (kk : W p l e R s m args below meth c H locs cells slots Q (F0 m (pc + 3) ls (.ref (q 12) :: rest))) : W p l e R s m args below meth c H locs cells slots Q (F0 m pc ls (.ref (q 0) :: rest)) := va_get (D := E.1) (ci := 1) (C := RX1) (T := TX1) (N := 18) hx hb hts in_X1 hown hK hP 0 rfl rfl 8 (by decide) (hts _ fl_X1_28) (fun _ h => h) rfl hdg kk
theorem gf_X1_31 (hx : p.tables.exec = Jvm.exec) (hb : c.code = cc) (hts : ∀ w ∈ lw_all, w.before args s = true) (hown : s.vm.findClass RX1 = some m.cls) (hK : KK E s) (hP : PP 1 E q σ H) (hdg : decode cc pc = .ok (.getfield 31, 3)) (kk : W p l e R s m args below meth c H locs cells slots Q (F0 m (pc + 3) ls (.ref (q 13) :: rest))) : W p l e R s m args below meth c H locs cells slots Q (F0 m pc ls (.ref (q 0) :: rest)) := va_get (D := E.1) (ci := 1) (C := RX1) (T := TX1) (N := 18) hx hb hts in_X1 hown hK hP 0 rfl rfl 9 (by decide) (hts _ fl_X1_31) (fun _ h => h) rfl hdg kk
theorem gf_X1_69 (hx : p.tables.exec = Jvm.exec) (hb : c.code = cc) (hts : ∀ w ∈ lw_all, w.before args s = true) (hown : s.vm.findClass RX1 = some m.cls) (hK : KK E s) (hP : PP 1 E q σ H) (hdg : decode cc pc = .ok (.getfield 69, 3)) (kk : W p l e R s m args below meth c H locs cells slots Q (F0 m (pc + 3) ls (.int (σ.2.2 14) :: rest))) : W p l e R s m args below meth c H locs cells slots Q (F0 m pc ls (.ref (q 0) :: rest)) := va_get (D := E.1) (ci := 1) (C := RX1) (T := TX1) (N := 18) hx hb hts in_X1 hown hK hP 0 rfl rfl 10 (by decide) (hts _ fl_X1_69) (fun _ h => h) rfl hdg kk
theorem pf_X1_69 (hx : p.tables.exec = Jvm.exec) (hb : c.code = cc) (hts : ∀ w ∈ lw_all, w.before args s = true) (hown : s.vm.findClass RX1 = some m.cls) (hK : KK E s) (hq : Dq q) (hP : PP 1 E q σ H) (hS : va_S (Aq q) H0 H locs) (hdg : decode cc pc = .ok (.putfield 69, 3)) (kk : ∀ (H1 : Heap) (locs1 : List Loc), PP 1 E q (sS σ 14 x) H1 → va_S (Aq q) H0 H1 locs1 → W p l e R s m args below meth c H1 locs1 cells slots Q (F0 m (pc + 3) ls rest)) : W p l e R s m args below meth c H locs cells slots Q (F0 m pc ls (.int x :: .ref (q 0) :: rest)) := va_put (D := E.1) (ci := 1) (v := .int x) (ty := .int) (C := RX1) (T := TX1) (N := 18) hx hb hts in_X1 tyX1 tyX1_ok nmX1 hown hK hP (D0 hq) hS 0 rfl rfl 10 (by decide) (hts _ fl_X1_69) (fun _ h => h) rfl (by decide +kernel) rfl rfl (Nat.le_of_ble_eq_true rfl) hdg (fun H1 locs1 h1 _ h3 => kk H1 locs1 h1 h3)
theorem gf_X1_34 (hx : p.tables.exec = Jvm.exec) (hb : c.code = cc) (hts : ∀ w ∈ lw_all, w.before args s = true) (hown : s.vm.findClass RX1 = some m.cls) (hK : KK E s) (hP : PP 1 E q σ H) (hdg : decode cc pc = .ok (.getfield 34, 3)) (kk : W p l e R s m args below meth c H locs cells slots Q (F0 m (pc + 3) ls (.ref (q 1) :: rest))) : W p l e R s m args below meth c H locs cells slots Q (F0 m pc ls (.ref (q 0) :: rest)) := va_get (D := E.1) (ci := 1) (C := RX1) (T := TX1) (N := 18) hx hb hts in_X1 hown hK hP 0 rfl rfl 11 (by decide) (hts _ fl_X1_34) (fun _ h => h) rfl hdg kk
theorem gf_X1_37 (hx : p.tables.exec = Jvm.exec) (hb : c.code = cc) (hts : ∀ w ∈ lw_all, w.before args s = true) (hown : s.vm.findClass RX1 = some m.cls) (hK : KK E s) (hP : PP 1 E q σ H) (hdg : decode cc pc = .ok (.getfield 37, 3)) (kk : W p l e R s m args below meth c H locs cells slots Q (F0 m (pc + 3) ls (.ref (q 2) :: rest))) : W p l e R s m args below meth c H locs cells slots Q (F0 m pc ls (.ref (q 0) :: rest)) := va_get (D := E.1) (ci := 1) (C := RX1) (T := TX1) (N := 18) hx hb hts in_X1 hown hK hP 0 rfl rfl 12 (by decide) (hts _ fl_X1_37) (fun _ h => h) rfl hdg kk
theorem gf_X1_40 (hx : p.tables.exec = Jvm.exec) (hb : c.code = cc) (hts : ∀ w ∈ lw_all, w.before args s = true) (hown : s.vm.findClass RX1 = some m.cls) (hK : KK E s) (hP : PP 1 E q σ H) (hdg : decode cc pc = .ok (.getfield 40, 3)) (kk : W p l e R s m args below meth c H locs cells slots Q (F0 m (pc + 3) ls (.ref (q 3) :: rest))) : W p l e R s m args below meth c H locs cells slots Q (F0 m pc ls (.ref (q 0) :: rest)) := va_get (D := E.1) (ci := 1) (C := RX1) (T := TX1) (N := 18) hx hb hts in_X1 hown hK hP 0 rfl rfl 13 (by decide) (hts _ fl_X1_40) (fun _ h => h) rfl hdg kk
theorem gf_X1_43 (hx : p.tables.exec = Jvm.exec) (hb : c.code = cc) (hts : ∀ w ∈ lw_all, w.before args s = true) (hown : s.vm.findClass RX1 = some m.cls) (hK : KK E s) (hP : PP 1 E q σ H) (hdg : decode cc pc = .ok (.getfield 43, 3)) (kk : W p l e R s m args below meth c H locs cells slots Q (F0 m (pc + 3) ls (.ref (q 4) :: rest))) : W p l e R s m args below meth c H locs cells slots Q (F0 m pc ls (.ref (q 0) :: rest)) := va_get (D := E.1) (ci := 1) (C := RX1) (T := TX1) (N := 18) hx hb hts in_X1 hown hK hP 0 rfl rfl 14 (by decide) (hts _ fl_X1_43) (fun _ h => h) rfl hdg kk
theorem gf_X1_46 (hx : p.tables.exec = Jvm.exec) (hb : c.code = cc) (hts : ∀ w ∈ lw_all, w.before args s = true) (hown : s.vm.findClass RX1 = some m.cls) (hK : KK E s) (hP : PP 1 E q σ H) (hdg : decode cc pc = .ok (.getfield 46, 3)) (kk : W p l e R s m args below meth c H locs cells slots Q (F0 m (pc + 3) ls (.ref (q 5) :: rest))) : W p l e R s m args below meth c H locs cells slots Q (F0 m pc ls (.ref (q 0) :: rest)) := va_get (D := E.1) (ci := 1) (C := RX1) (T := TX1) (N := 18) hx hb hts in_X1 hown hK hP 0 rfl rfl 15 (by decide) (hts _ fl_X1_46) (fun _ h => h) rfl hdg kk
theorem gf_X1_49 (hx : p.tables.exec = Jvm.exec) (hb : c.code = cc) (hts : ∀ w ∈ lw_all, w.before args s = true) (hown : s.vm.findClass RX1 = some m.cls) (hK : KK E s) (hP : PP 1 E q σ H) (hdg : decode cc pc = .ok (.getfield 49, 3)) (kk : W p l e R s m args below meth c H locs cells slots Q (F0 m (pc + 3) ls (.ref (q 6) :: rest))) : W p l e R s m args below meth c H locs cells slots Q (F0 m pc ls (.ref (q 0) :: rest)) := va_get (D := E.1) (ci := 1) (C := RX1) (T := TX1) (N := 18) hx hb hts in_X1 hown hK hP 0 rfl rfl 16 (by decide) (hts _ fl_X1_49) (fun _ h => h) rfl hdg kk
theorem gf_X1_52 (hx : p.tables.exec = Jvm.exec) (hb : c.code = cc) (hts : ∀ w ∈ lw_all, w.before args s = true) (hown : s.vm.findClass RX1 = some m.cls) (hK : KK E s) (hP : PP 1 E q σ H) (hdg : decode cc pc = .ok (.getfield 52, 3)) (kk : W p l e R s m args below meth c H locs cells slots Q (F0 m (pc + 3) ls (.ref (q 7) :: rest))) : W p l e R s m args below meth c H locs cells slots Q (F0 m pc ls (.ref (q 0) :: rest)) := va_get (D := E.1) (ci := 1) (C := RX1) (T := TX1) (N := 18) hx hb hts in_X1 hown hK hP 0 rfl rfl 17 (by decide) (hts _ fl_X1_52) (fun _ h => h) rfl hdg kk
end RW
end
section
/-! the forms of the contracts: R reads alone (the heap stays), W writes; I an int, J a long, V nothing -/
section FM
variable (l : Launch) (k : Nat) (E : Ev) (q : Nat → Nat) (σ : St) (y : MethodName) (cc : ByteArray) (n : Nat) (r : Option FieldType) (rm : Room) (As : List Value)
def preF : Array Value → State → Prop := va_Pc (.ref (q 0) :: As) (fun U => PP k E q σ U.heap ∧ KK E U)
def RI (v : Int32) (ex : Prop) : Prop := Met l y (ws_ y cc n r) rm (preF k E q σ As) (vp_Si (fun w => w = v ∧ ex)) 0 0 (fun _ => False)
def RJ (v : Int64) (ex : Prop) : Prop := Met l y (ws_ y cc n r) rm (preF k E q σ As) (vp_Sl (fun w => w = v ∧ ex)) 0 0 (fun _ => False)
def WI (v : Int32) (σ' : St) (ex : Prop) : Prop := Met l y (ws_ y cc n r) rm (preF k E q σ As) (va_Qi (fun w (_ : Unit) => w = v ∧ ex) (fun _ t => PP k E q σ' t.heap) (Aq q)) 0 0 (Aq q)
def WJ (v : Int64) (σ' : St) (ex : Prop) : Prop := Met l y (ws_ y cc n r) rm (preF k E q σ As) (va_Ql (fun w (_ : Unit) => w = v ∧ ex) (fun _ t => PP k E q σ' t.heap) (Aq q)) 0 0 (Aq q)
def WV (σ' : St) (ex : Prop) : Prop := Met l y (ws_ y cc n r) rm (preF k E q σ As) (va_Qv (fun (_ : Unit) => ex) (fun _ t => PP k E q σ' t.heap) (Aq q)) 0 0 (Aq q)
/-- a static method of numbers alone -/
def NI (v : Int32) : Prop := Met l y (ws_ y cc n r) rm (va_Pc As (fun _ => True)) (vp_Si (fun w => w = v)) 0 0 (fun _ => False)
end FM
/-- what a body has at hand -/
def Bd (p : Program) (s : State) (m : MethodId) (args : Array Value) (meth : Method) (c : Code) (own : String) (cc : ByteArray) (nL : Nat) (r : Option FieldType) : Prop :=
  p.tables.exec = Jvm.exec ∧ c.code = cc ∧ c.maxLocals = nL ∧ meth.sig.returnType = r ∧ meth.locks = false ∧ s.vm.findClass own = some m.cls ∧ ∀ w ∈ lw_all, w.before args s = true
section OF
variable {l : Launch} {k : Nat} {E : Ev} {q : Nat → Nat} {σ : St} {y : MethodName} {cc : ByteArray} {n : Nat} {r : Option FieldType} {rm : Room} {As : List Value}
theorem Met.ofB {Pc : State → Prop} {Qc : Array Value → State → Outcome → State → Prop} {free : Addr → Prop} {Vs : List Value} (hy : plainName y.cls = true) (hn : (lg_sl Vs).length ≤ n)
    (body : ∀ (p : Program) (e : Env) (s : State) (m : MethodId) (args : Array Value) (below : List Frame) (meth : Method) (c : Code) (ls : Array Slot) (Q : State → Prop), Bd p s m args meth c y.cls cc n r → Q = MQ below Qc args s 0 0 free → Pc s → lv_has ls n (lv_args 0 Vs) →
      W p l e rm s m args below meth c s.heap [] 0 0 Q (F0 m 0 ls [])) : Met l y (ws_ y cc n r) rm (va_Pc Vs Pc) Qc 0 0 free := by
  refine Met.ofW (cc := cc) (maxL := n) (ret := r) hy rfl ?_
  intro p e s m args below meth c s₁ B hml hv
  obtain ⟨rfl, hP⟩ := hv
  have hts := atoms_spec (ws := ws_ y cc n r) B.pre
  have hl := lv_entry Vs (n := n) hn
  rw [lg_entry_eq]
  exact body p e s m Vs.toArray below meth c _ _ ⟨B.exec, B.bytes, hml, B.returns, B.notSynchronized, findClass_of_methodNamed B.named, fun w h => hts w (List.mem_cons_of_mem _ h)⟩ rfl hP hl
end OF
section RT
variable {p : Program} {l : Launch} {e : Env} {R : Room} {s : State} {m : MethodId} {args : Array Value} {below : List Frame} {meth : Method} {c : Code} {H : Heap} {locs : List Loc} {Q : State → Prop}
variable {cc : ByteArray} {pc : Nat} {ls : Array Slot} {E : Ev} {q : Nat → Nat} {σ σ' : St} {k : Nat} {x v : Int32} {z w : Int64} {ex : Prop}
theorem rt_RI (hQ : Q = MQ below (vp_Si (fun w => w = v ∧ ex)) args s 0 0 (fun _ => False)) (hx : p.tables.exec = Jvm.exec) (hb : c.code = cc) (hr : meth.sig.returnType = some .int) (hlocks : meth.locks = false) (hv : x = v ∧ ex) (hdg : decode cc pc = .ok (.ireturn, 1)) : W p l e R s m args below meth c s.heap [] 0 0 Q (F0 m pc ls [.int x]) :=
  hQ ▸ W.iret hx hb hr (fun t ht _ => ⟨x, rfl, hv, ht⟩) (fun _ h => nomatch h) hdg hlocks
theorem rt_RZ (hQ : Q = MQ below (vp_Si (fun w => w = v ∧ ex)) args s 0 0 (fun _ => False)) (hx : p.tables.exec = Jvm.exec) (hb : c.code = cc) (hr : meth.sig.returnType = some .boolean) (hlocks : meth.locks = false) (hn : narrow .boolean (.int x) = .int x) (hv : x = v ∧ ex) (hdg : decode cc pc = .ok (.ireturn, 1)) : W p l e R s m args below meth c s.heap [] 0 0 Q (F0 m pc ls [.int x]) :=
  hQ ▸ W.zret hx hb hr hn (fun t ht _ => ⟨x, rfl, hv, ht⟩) (fun _ h => nomatch h) hdg hlocks
theorem rt_RJ (hQ : Q = MQ below (vp_Sl (fun x => x = w ∧ ex)) args s 0 0 (fun _ => False)) (hx : p.tables.exec = Jvm.exec) (hb : c.code = cc) (hr : meth.sig.returnType = some .long) (hlocks : meth.locks = false) (hv : z = w ∧ ex) (hdg : decode cc pc = .ok (.lreturn, 1)) : W p l e R s m args below meth c s.heap [] 0 0 Q (F0 m pc ls [.long z]) :=
  hQ ▸ W.lret hx hb hr (fun t ht _ => ⟨z, rfl, hv, ht⟩) (fun _ h => nomatch h) hdg hlocks
theorem rt_NI (hQ : Q = MQ below (vp_Si (fun w => w = v)) args s 0 0 (fun _ => False)) (hx : p.tables.exec = Jvm.exec) (hb : c.code = cc) (hr : meth.sig.returnType = some .int) (hlocks : meth.locks = false) (hv : x = v) (hdg : decode cc pc = .ok (.ireturn, 1)) : W p l e R s m args below meth c s.heap [] 0 0 Q (F0 m pc ls [.int x]) :=
  hQ ▸ W.iret hx hb hr (fun t ht _ => ⟨x, rfl, hv, ht⟩) (fun _ h => nomatch h) hdg hlocks
theorem rt_NZ (hQ : Q = MQ below (vp_Si (fun w => w = v)) args s 0 0 (fun _ => False)) (hx : p.tables.exec = Jvm.exec) (hb : c.code = cc) (hr : meth.sig.returnType = some .boolean) (hlocks : meth.locks = false) (hn : narrow .boolean (.int x) = .int x) (hv : x = v) (hdg : decode cc pc = .ok (.ireturn, 1)) : W p l e R s m args below meth c s.heap [] 0 0 Q (F0 m pc ls [.int x]) :=
  hQ ▸ W.zret hx hb hr hn (fun t ht _ => ⟨x, rfl, hv, ht⟩) (fun _ h => nomatch h) hdg hlocks
theorem rt_WI (hQ : Q = MQ below (va_Qi (fun w (_ : Unit) => w = v ∧ ex) (fun _ t => PP k E q σ' t.heap) (Aq q)) args s 0 0 (Aq q)) (hx : p.tables.exec = Jvm.exec) (hb : c.code = cc) (hr : meth.sig.returnType = some .int) (hlocks : meth.locks = false) (hP : PP k E q σ' H) (hS : va_S (Aq q) s.heap H locs) (hv : x = v ∧ ex) (hdg : decode cc pc = .ok (.ireturn, 1)) : W p l e R s m args below meth c H locs 0 0 Q (F0 m pc ls [.int x]) :=
  hQ ▸ W.iret hx hb hr (fun t ht _ => ⟨⟨x, (), rfl, hv, by show PP _ _ _ _ t.heap; rw [ht]; exact hP⟩, hS.F ht⟩) hS.2.2 hdg hlocks
theorem rt_WZ (hQ : Q = MQ below (va_Qi (fun w (_ : Unit) => w = v ∧ ex) (fun _ t => PP k E q σ' t.heap) (Aq q)) args s 0 0 (Aq q)) (hx : p.tables.exec = Jvm.exec) (hb : c.code = cc) (hr : meth.sig.returnType = some .boolean) (hlocks : meth.locks = false) (hn : narrow .boolean (.int x) = .int x) (hP : PP k E q σ' H) (hS : va_S (Aq q) s.heap H locs) (hv : x = v ∧ ex) (hdg : decode cc pc = .ok (.ireturn, 1)) : W p l e R s m args below meth c H locs 0 0 Q (F0 m pc ls [.int x]) :=
  hQ ▸ W.zret hx hb hr hn (fun t ht _ => ⟨⟨x, (), rfl, hv, by show PP _ _ _ _ t.heap; rw [ht]; exact hP⟩, hS.F ht⟩) hS.2.2 hdg hlocks
theorem rt_WJ (hQ : Q = MQ below (va_Ql (fun x (_ : Unit) => x = w ∧ ex) (fun _ t => PP k E q σ' t.heap) (Aq q)) args s 0 0 (Aq q)) (hx : p.tables.exec = Jvm.exec) (hb : c.code = cc) (hr : meth.sig.returnType = some .long) (hlocks : meth.locks = false) (hP : PP k E q σ' H) (hS : va_S (Aq q) s.heap H locs) (hv : z = w ∧ ex) (hdg : decode cc pc = .ok (.lreturn, 1)) : W p l e R s m args below meth c H locs 0 0 Q (F0 m pc ls [.long z]) :=
  hQ ▸ W.lret hx hb hr (fun t ht _ => ⟨⟨z, (), rfl, hv, by show PP _ _ _ _ t.heap; rw [ht]; exact hP⟩, hS.F ht⟩) hS.2.2 hdg hlocks
theorem rt_WV (hQ : Q = MQ below (va_Qv (fun (_ : Unit) => ex) (fun _ t => PP k E q σ' t.heap) (Aq q)) args s 0 0 (Aq q)) (hx : p.tables.exec = Jvm.exec) (hb : c.code = cc) (hr : meth.sig.returnType = none) (hlocks : meth.locks = false) (hP : PP k E q σ' H) (hS : va_S (Aq q) s.heap H locs) (hv : ex) (hdg : decode cc pc = .ok (.return_, 1)) : W p l e R s m args below meth c H locs 0 0 Q (F0 m pc ls []) :=
  hQ ▸ W.vret hx hb hr (fun t ht _ => ⟨⟨(), rfl, hv, by show PP _ _ _ _ t.heap; rw [ht]; exact hP⟩, hS.F ht⟩) hS.2.2 hdg hlocks
end RT
section CL
variable {p : Program} {l : Launch} {e : Env} {R : Room} {s : State} {m : MethodId} {args : Array Value} {below : List Frame} {meth : Method} {c : Code} {H : Heap} {locs : List Loc} {cells slots : Nat} {Q : State → Prop}
variable {cc bytes : ByteArray} {pc idx nL maxL : Nat} {ls : Array Slot} {rest st0 As : List Value} {E : Ev} {q : Nat → Nat} {σ σ' : St} {k : Nat} {H0 : Heap} {y : MethodName} {ret : Option FieldType} {rm : Room} {own : String} {v : Int32} {w : Int64} {ex : Prop}
theorem preF_blind : FrameBlind (preF k E q σ As) := fun _ _ _ _ h => ⟨h.1, h.2.1, KK.moved (Vm.Alike.refl _) h.2.2⟩
theorem pre_V (hK : KK E s) (hP : PP k E q σ H) : PreV s H (RK k) (q 0) (preF k E q σ As) As := ⟨preF_blind, hP.recv hK, fun U hU hW => ⟨rfl, by rw [hU]; exact hP, KK.moved hW.alike hK⟩⟩
theorem cs_Si {post : Int32 → Prop} {a : Array Value} (hr : va_Run p l e R s m args below meth c H locs cells slots 0 0 (F0 m pc ls st0) rest (vp_Si post a) (fun _ => False))
    (kk : ∀ r : Int32, post r → W p l e R s m args below meth c H locs cells slots Q (F0 m (pc + 3) ls (.int r :: rest))) : W p l e R s m args below meth c H locs cells slots Q (F0 m pc ls st0) := by
  intro T hT X
  obtain ⟨v, st₀, t, T', L, h0, X', hL, e1, e2, ⟨r, hv, hp, hh⟩, st⟩ := hr T hT X
  cases hv
  obtain ⟨t2, a1, b1⟩ := kk r hp T' (by rw [e1, hh, h0]) (Stand.forget X' (fun q h => (hL q h).elim))
  exact ⟨t2, st t2 a1, b1⟩
theorem cs_Sl {post : Int64 → Prop} {a : Array Value} (hr : va_Run p l e R s m args below meth c H locs cells slots 0 0 (F0 m pc ls st0) rest (vp_Sl post a) (fun _ => False))
    (kk : ∀ r : Int64, post r → W p l e R s m args below meth c H locs cells slots Q (F0 m (pc + 3) ls (.long r :: rest))) : W p l e R s m args below meth c H locs cells slots Q (F0 m pc ls st0) := by
  intro T hT X
  obtain ⟨v, st₀, t, T', L, h0, X', hL, e1, e2, ⟨r, hv, hp, hh⟩, st⟩ := hr T hT X
  cases hv
  obtain ⟨t2, a1, b1⟩ := kk r hp T' (by rw [e1, hh, h0]) (Stand.forget X' (fun q h => (hL q h).elim))
  exact ⟨t2, st t2 a1, b1⟩
abbrev hdT (y : MethodName) (C : String) (n : Nat) : Prop := y.cls = C ∧ y.cls ≠ "java/lang/invoke/MethodHandle" ∧ y.cls ≠ "java/lang/invoke/VarHandle" ∧ (parseMethodDescriptor y.desc).map (fun d => d.parameters.length) = some n
abbrev Fx (p : Program) (m : MethodId) (c : Code) (cc : ByteArray) (nL : Nat) (s : State) (args : Array Value) (own : String) : Prop := CallFix p m c cc nL s args lw_all own
theorem cl_RI (hM : RI l k E q σ y bytes maxL ret rm As v ex) (hg : GoodIn lw_all (wsV own idx (RK k) y (ws_ y bytes maxL ret))) (hd : hdT y (RK k) As.length) (hrm : rm.cells = 0 ∧ rm.slots = 0) (S : Fx p m c cc nL s args own) (hK : KK E s) (hP : PP k E q σ H) (hst : st0 = As.reverse ++ .ref (q 0) :: rest) (hsz : ls.size = nL) (hw : (rest.map fun v => v.category).sum ≤ 8) (hR : rm.frames + 1 ≤ R.frames ∧ 8 + (maxL + 11) + rm.locals ≤ R.locals) (hcs : cells ≤ R.cells ∧ slots ≤ R.slots) (hdg : decode cc pc = .ok (.invokevirtual idx, 3))
    (kk : ex → W p l e R s m args below meth c H locs cells slots Q (F0 m (pc + 3) ls (.int v :: rest))) : W p l e R s m args below meth c H locs cells slots Q (F0 m pc ls st0) := by
  subst hst
  refine cs_Si (va_runV (As := As) (rest := rest) S hM (cwV As.length S.2.2.2.2 hg rfl hrm.1 hrm.2 hd hR) (pre_V hK hP) rfl rfl hsz rfl (lv_room hw) hdg hcs) (fun r hr => ?_)
  rw [hr.1]
  exact kk hr.2
theorem cl_RJ (hM : RJ l k E q σ y bytes maxL ret rm As w ex) (hg : GoodIn lw_all (wsV own idx (RK k) y (ws_ y bytes maxL ret))) (hd : hdT y (RK k) As.length) (hrm : rm.cells = 0 ∧ rm.slots = 0) (S : Fx p m c cc nL s args own) (hK : KK E s) (hP : PP k E q σ H) (hst : st0 = As.reverse ++ .ref (q 0) :: rest) (hsz : ls.size = nL) (hw : (rest.map fun v => v.category).sum ≤ 8) (hR : rm.frames + 1 ≤ R.frames ∧ 8 + (maxL + 11) + rm.locals ≤ R.locals) (hcs : cells ≤ R.cells ∧ slots ≤ R.slots) (hdg : decode cc pc = .ok (.invokevirtual idx, 3))
    (kk : ex → W p l e R s m args below meth c H locs cells slots Q (F0 m (pc + 3) ls (.long w :: rest))) : W p l e R s m args below meth c H locs cells slots Q (F0 m pc ls st0) := by
  subst hst
  refine cs_Sl (va_runV (As := As) (rest := rest) S hM (cwV As.length S.2.2.2.2 hg rfl hrm.1 hrm.2 hd hR) (pre_V hK hP) rfl rfl hsz rfl (lv_room hw) hdg hcs) (fun r hr => ?_)
  rw [hr.1]
  exact kk hr.2
theorem cl_NI (hM : NI l y bytes maxL ret rm As v) (hg : GoodIn lw_all (va_wsS own idx y (ws_ y bytes maxL ret))) {C : String} (hd : hdT y C As.length) (hrm : rm.cells = 0 ∧ rm.slots = 0) (S : Fx p m c cc nL s args own) (hst : st0 = As.reverse ++ rest) (hsz : ls.size = nL) (hw : (rest.map fun v => v.category).sum ≤ 8) (hR : rm.frames + 1 ≤ R.frames ∧ 8 + (maxL + 11) + rm.locals ≤ R.locals) (hcs : cells ≤ R.cells ∧ slots ≤ R.slots) (hdg : decode cc pc = .ok (.invokestatic idx, 3))
    (kk : W p l e R s m args below meth c H locs cells slots Q (F0 m (pc + 3) ls (.int v :: rest))) : W p l e R s m args below meth c H locs cells slots Q (F0 m pc ls st0) := by
  subst hst
  refine cs_Si (va_runS (As := As) (rest := rest) S hM (va_cwS As.length S.2.2.2.2 hg rfl hrm.1 hrm.2 hd.2 hR) ⟨fun _ _ _ _ h => h, fun U hU hW => ⟨rfl, trivial⟩⟩ rfl rfl hsz rfl (lv_room hw) hdg hcs) (fun r hr => ?_)
  rw [hr]
  exact kk
theorem cl_WI (hM : WI l k E q σ y bytes maxL ret rm As v σ' ex) (hg : GoodIn lw_all (wsV own idx (RK k) y (ws_ y bytes maxL ret))) (hd : hdT y (RK k) As.length) (hrm : rm.cells = 0 ∧ rm.slots = 0) (S : Fx p m c cc nL s args own) (hK : KK E s) (hP : PP k E q σ H) (hS : va_S (Aq q) H0 H locs) (hst : st0 = As.reverse ++ .ref (q 0) :: rest) (hsz : ls.size = nL) (hw : (rest.map fun v => v.category).sum ≤ 8) (hR : rm.frames + 1 ≤ R.frames ∧ 8 + (maxL + 11) + rm.locals ≤ R.locals) (hcs : cells ≤ R.cells ∧ slots ≤ R.slots) (hdg : decode cc pc = .ok (.invokevirtual idx, 3))
    (kk : ∀ (H1 : Heap) (locs1 : List Loc), PP k E q σ' H1 → va_S (Aq q) H0 H1 locs1 → ex → W p l e R s m args below meth c H1 locs1 cells slots Q (F0 m (pc + 3) ls (.int v :: rest))) : W p l e R s m args below meth c H locs cells slots Q (F0 m pc ls st0) := by
  subst hst
  refine va_calli (va_runV (As := As) (rest := rest) S hM (cwV As.length S.2.2.2.2 hg rfl hrm.1 hrm.2 hd hR) (pre_V hK hP) rfl rfl hsz rfl (lv_room hw) hdg hcs) hS (fun _ _ h => h) (fun _ h => h) (fun r u t H1 locs1 ht _ hw hB _ _ hS1 => ?_)
  rw [hw.1]
  rw [ht] at hB
  exact kk H1 locs1 hB hS1 hw.2
theorem cl_WJ (hM : WJ l k E q σ y bytes maxL ret rm As w σ' ex) (hg : GoodIn lw_all (wsV own idx (RK k) y (ws_ y bytes maxL ret))) (hd : hdT y (RK k) As.length) (hrm : rm.cells = 0 ∧ rm.slots = 0) (S : Fx p m c cc nL s args own) (hK : KK E s) (hP : PP k E q σ H) (hS : va_S (Aq q) H0 H locs) (hst : st0 = As.reverse ++ .ref (q 0) :: rest) (hsz : ls.size = nL) (hw : (rest.map fun v => v.category).sum ≤ 8) (hR : rm.frames + 1 ≤ R.frames ∧ 8 + (maxL + 11) + rm.locals ≤ R.locals) (hcs : cells ≤ R.cells ∧ slots ≤ R.slots) (hdg : decode cc pc = .ok (.invokevirtual idx, 3))
    (kk : ∀ (H1 : Heap) (locs1 : List Loc), PP k E q σ' H1 → va_S (Aq q) H0 H1 locs1 → ex → W p l e R s m args below meth c H1 locs1 cells slots Q (F0 m (pc + 3) ls (.long w :: rest))) : W p l e R s m args below meth c H locs cells slots Q (F0 m pc ls st0) := by
  subst hst
  refine va_calll (va_runV (As := As) (rest := rest) S hM (cwV As.length S.2.2.2.2 hg rfl hrm.1 hrm.2 hd hR) (pre_V hK hP) rfl rfl hsz rfl (lv_room hw) hdg hcs) hS (fun _ _ h => h) (fun _ h => h) (fun r u t H1 locs1 ht _ hw hB _ _ hS1 => ?_)
  rw [hw.1]
  rw [ht] at hB
  exact kk H1 locs1 hB hS1 hw.2
theorem cl_WV (hM : WV l k E q σ y bytes maxL ret rm As σ' ex) (hg : GoodIn lw_all (wsV own idx (RK k) y (ws_ y bytes maxL ret))) (hd : hdT y (RK k) As.length) (hrm : rm.cells = 0 ∧ rm.slots = 0) (S : Fx p m c cc nL s args own) (hK : KK E s) (hP : PP k E q σ H) (hS : va_S (Aq q) H0 H locs) (hst : st0 = As.reverse ++ .ref (q 0) :: rest) (hsz : ls.size = nL) (hw : (rest.map fun v => v.category).sum ≤ 8) (hR : rm.frames + 1 ≤ R.frames ∧ 8 + (maxL + 11) + rm.locals ≤ R.locals) (hcs : cells ≤ R.cells ∧ slots ≤ R.slots) (hdg : decode cc pc = .ok (.invokevirtual idx, 3))
    (kk : ∀ (H1 : Heap) (locs1 : List Loc), PP k E q σ' H1 → va_S (Aq q) H0 H1 locs1 → ex → W p l e R s m args below meth c H1 locs1 cells slots Q (F0 m (pc + 3) ls rest)) : W p l e R s m args below meth c H locs cells slots Q (F0 m pc ls st0) := by
  subst hst
  refine va_callv (va_runV (As := As) (rest := rest) S hM (cwV As.length S.2.2.2.2 hg rfl hrm.1 hrm.2 hd hR) (pre_V hK hP) rfl rfl hsz rfl (lv_room hw) hdg hcs) hS (fun _ _ h => h) (fun _ h => h) (fun u t H1 locs1 ht _ hw hB _ _ hS1 => ?_)
  rw [ht] at hB
  exact kk H1 locs1 hB hS1 hw
end CL
/-! pure rows -/
def lp {α : Type} (f : Nat → α → α) : Nat → Nat → α → α
  | 0, _, a => a
  | n + 1, i, a => lp f n (i + 1) (f i a)
theorem lp_in {b : Int32} {T i n : Nat} (hb : b = nI T) (h2 : T < 2 ^ 31) (hi : i + (n + 1) = T) : ¬ b ≤ nI i := by
  rw [hb]; exact nI_ge (by omega) h2
theorem lp_out {b : Int32} {T i : Nat} (hb : b = nI T) (h2 : T < 2 ^ 31) (hi : i + 0 = T) : b ≤ nI i := by
  rw [hb]; exact nI_le (by omega) (by omega)
/-- a task's number, or -1 -/
def vo (x : Int32) : Prop := x = -1 ∨ vp_in x 16
theorem vo.in {x : Int32} (h : vo x) (hn : ¬ x = -1) : vp_in x 16 := Or.resolve_left h hn
theorem vo_1 : vo (-1) := Or.inl rfl
theorem vo_in {x : Int32} (h : vp_in x 16) : vo x := Or.inr h
theorem vo_nI {i : Nat} (h : i < 16) : vo (nI i) := Or.inr (vp_in_nI h (by decide))
theorem vo.ite {c : Prop} [Decidable c] {a b : Int32} (ha : vo a) (hb : vo b) : vo (if c then a else b) := by split <;> assumption
theorem in_ite {n : Nat} {c : Prop} [Decidable c] {a b : Int32} (ha : vp_in a n) (hb : vp_in b n) : vp_in (if c then a else b) n := by split <;> assumption
/-- what holds of a picture between calls: T tasks, C cores; CPUs are in range, weights are positive -/
def Inv (T C : Nat) (σ : St) : Prop := (∀ k : Nat, vp_in (σ.1 0 k) 8) ∧ σ.2.2 14 = nI T ∧ σ.2.2 13 = nI C ∧ ∀ k : Nat, k < T → ¬ σ.1 1 k < 1
theorem inv_sI {T C : Nat} {σ : St} {a i : Nat} {v : Int32} (ha : a ≠ 0 ∧ a ≠ 1) (h : Inv T C σ) : Inv T C (sI σ a i v) := by
  obtain ⟨h1, h2, h3, h4⟩ := h
  refine ⟨fun k => ?_, h2, h3, fun k hk => ?_⟩
  · show vp_in ((if 0 = a then upd (σ.1 a) i v else σ.1 0) k) 8
    rw [if_neg (fun e => ha.1 e.symm)]; exact h1 k
  · show ¬ (if 1 = a then upd (σ.1 a) i v else σ.1 1) k < 1
    rw [if_neg (fun e => ha.2 e.symm)]; exact h4 k hk
theorem inv_cpu {T C : Nat} {σ : St} {i : Nat} {v : Int32} (hv : vp_in v 8) (h : Inv T C σ) : Inv T C (sI σ 0 i v) := by
  obtain ⟨h1, h2, h3, h4⟩ := h
  refine ⟨fun k => ?_, h2, h3, fun k hk => ?_⟩
  · show vp_in (upd (σ.1 0) i v k) 8
    unfold upd
    split
    · exact hv
    · exact h1 k
  · exact h4 k hk
theorem inv_weight {T C : Nat} {σ : St} {i : Nat} {v : Int32} (hv : ¬ v < 1) (h : Inv T C σ) : Inv T C (sI σ 1 i v) := by
  obtain ⟨h1, h2, h3, h4⟩ := h
  refine ⟨fun k => h1 k, h2, h3, fun k hk => ?_⟩
  show ¬ upd (σ.1 1) i v k < 1
  unfold upd
  split
  · exact hv
  · exact h4 k hk
theorem inv_sJ {T C : Nat} {σ : St} {a i : Nat} {v : Int64} (h : Inv T C σ) : Inv T C (sJ σ a i v) := ⟨h.1, h.2.1, h.2.2.1, h.2.2.2⟩
theorem inv_sS {T C : Nat} {σ : St} {a : Nat} {v : Int32} (ha : a ≠ 13 ∧ a ≠ 14) (h : Inv T C σ) : Inv T C (sS σ a v) := by
  obtain ⟨h1, h2, h3, h4⟩ := h
  refine ⟨h1, ?_, ?_, h4⟩
  · show (if 14 = a then v else σ.2.2 14) = _
    rw [if_neg (fun e => ha.2 e.symm)]; exact h2
  · show (if 13 = a then v else σ.2.2 13) = _
    rw [if_neg (fun e => ha.1 e.symm)]; exact h3
theorem inv_ite {T C : Nat} {c : Prop} [Decidable c] {a b : St} (ha : Inv T C a) (hb : Inv T C b) : Inv T C (if c then a else b) := by split <;> assumption
theorem nb_1 : narrow .boolean (.int 1) = .int 1 := rfl
theorem nb_0 : narrow .boolean (.int 0) = .int 0 := rfl
theorem nb_ite {c : Prop} [Decidable c] {a b : Int32} (ha : narrow .boolean (.int a) = .int a) (hb : narrow .boolean (.int b) = .int b) : narrow .boolean (.int (if c then a else b)) = .int (if c then a else b) := by split <;> assumption
section CT
variable {p : Program} {l : Launch} {e : Env} {R : Room} {s : State} {m : MethodId} {args : Array Value} {below : List Frame} {meth : Method} {c : Code} {H : Heap} {locs : List Loc} {cells slots : Nat} {Q : State → Prop} {g : JFrame}
/-- both sides of a branch come to one place -/
theorem cutG (Kp : Array Slot → Heap → List Loc → List Value → Prop) (M : Nat) (k : ∀ (ls : Array Slot) (H1 : Heap) (locs1 : List Loc) (st : List Value), Kp ls H1 locs1 st → W p l e R s m args below meth c H1 locs1 cells slots Q (F0 m M ls st)) (h : (∀ (ls : Array Slot) (H1 : Heap) (locs1 : List Loc) (st : List Value), Kp ls H1 locs1 st → W p l e R s m args below meth c H1 locs1 cells slots Q (F0 m M ls st)) → W p l e R s m args below meth c H locs cells slots Q g) : W p l e R s m args below meth c H locs cells slots Q g := h k
end CT
end
section
abbrev ix (x : Int32) : Nat := x.toNatClampNeg
theorem divne {x : Int32} (h : ¬ x < 1) : ¬ x = 0 := fun e => h (by rw [e]; decide)
def f_X0_isRunnable (T C : Nat) (σ : St) (t : Int32) : Int32 := (if (σ.1 3 (ix t)) = 0 then 1 else (if (σ.1 3 (ix t)) = 1 then 1 else 0))
def rm_X0_isRunnable : Room := { frames := 0, cells := 0, slots := 0, locals := 0 }
set_option maxHeartbeats 4000000 in
set_option maxRecDepth 100000 in
theorem k_X0_isRunnable (l : Launch) (E : Ev) (q : Nat → Nat) (hq : Dq q) {T C : Nat} (hT : T ≤ 16) (hC : 1 ≤ C ∧ C ≤ 4) (σ : St) (hI : Inv T C σ) (t : Int32) (hp0 : vp_in t 16) : RI l 0 E q σ yX0_isRunnable cX0_isRunnable 2 (some .boolean) rm_X0_isRunnable [.int t] (f_X0_isRunnable T C σ t) True := by
  refine Met.ofB (by decide) (Nat.le_of_ble_eq_true rfl) (fun p e s m args below meth c ls Q B hQ hPK hl => ?_)
  obtain ⟨hx, hb, hml, hr, hlocks, hown, hts⟩ := B
  have S0 : Fx p m c cX0_isRunnable 2 s args RX0 := ⟨hx, hb, hml, hown, hts⟩
  obtain ⟨hP, hK⟩ := hPK
  have hl : lv_has ls 2 [(0, .ref (q 0)), (1, .int t)] := hl
  refine lv_aload_n hx hb dX0_isRunnable_0 rfl (lv_at hl 0 rfl) ?_
  refine gf_X0_19 hx hb hts hown hK hP dX0_isRunnable_1 ?_
  refine lv_iload_n hx hb dX0_isRunnable_4 rfl (lv_at hl 1 rfl) ?_
  refine ld_3 hx hb hK hP hp0 dX0_isRunnable_5 ?_
  refine cutG (fun ls H locs st => ∃ y0 : Int32, y0 = (if (σ.1 3 (ix t)) = 0 then 1 else (if (σ.1 3 (ix t)) = 1 then 1 else 0)) ∧ st = [.int y0] ∧ lv_has ls 2 [(0, .ref (q 0)), (1, .int t)] ∧ H = s.heap ∧ locs = []) 24 (fun ls H locs st hKp => ?_) (fun K6 => ?_)
  · obtain ⟨_, rfl, rfl, hl, rfl, rfl⟩ := hKp
    exact rt_RZ hQ hx hb hr hlocks (nb_ite nb_1 (nb_ite nb_1 nb_0)) ⟨rfl, trivial⟩ dX0_isRunnable_24
  · refine lv_if_eq (tgt := 19) hx hb dX0_isRunnable_6 (by decide) (fun h6 => ?_) (fun h6 => ?_)
    · skip
      refine lv_iconst (v := 1) hx hb dX0_isRunnable_19 (by decide) ?_
      refine lv_goto (tgt := 24) hx hb dX0_isRunnable_20 (by decide) ?_
      exact K6 _ _ _ _ ⟨1, (Eq.symm (if_pos h6)), rfl, lv_sub hl [0, 1] rfl, rfl, rfl⟩
    · skip
      refine lv_aload_n hx hb dX0_isRunnable_9 rfl (lv_at hl 0 rfl) ?_
      refine gf_X0_19 hx hb hts hown hK hP dX0_isRunnable_10 ?_
      refine lv_iload_n hx hb dX0_isRunnable_13 rfl (lv_at hl 1 rfl) ?_
      refine ld_3 hx hb hK hP hp0 dX0_isRunnable_14 ?_
      refine lv_iconst (v := 1) hx hb dX0_isRunnable_15 (by decide) ?_
      refine lv_icmp_ne (tgt := 23) hx hb dX0_isRunnable_16 (by decide) (fun h16 => ?_) (fun h16 => ?_)
      · skip
        refine lv_iconst (v := 0) hx hb dX0_isRunnable_23 (by decide) ?_
        exact K6 _ _ _ _ ⟨0, (Eq.symm (Eq.trans (if_neg h6) (if_neg h16))), rfl, lv_sub hl [0, 1] rfl, rfl, rfl⟩
      · skip
        refine lv_iconst (v := 1) hx hb dX0_isRunnable_19 (by decide) ?_
        refine lv_goto (tgt := 24) hx hb dX0_isRunnable_20 (by decide) ?_
        exact K6 _ _ _ _ ⟨1, (Eq.symm (Eq.trans (if_neg h6) (if_pos h16))), rfl, lv_sub hl [0, 1] rfl, rfl, rfl⟩
def f_X0_coreOfCpu (c9 : Int32) : Int32 := (c9 / 2)
def rm_X0_coreOfCpu : Room := { frames := 0, cells := 0, slots := 0, locals := 0 }
set_option maxHeartbeats 4000000 in
set_option maxRecDepth 100000 in
theorem k_X0_coreOfCpu (l : Launch) (c9 : Int32) : NI l yX0_coreOfCpu cX0_coreOfCpu 1 (some .int) rm_X0_coreOfCpu [.int c9] (f_X0_coreOfCpu c9) := by
  refine Met.ofB (by decide) (Nat.le_of_ble_eq_true rfl) (fun p e s m args below meth c ls Q B hQ hPK hl => ?_)
  obtain ⟨hx, hb, hml, hr, hlocks, hown, hts⟩ := B
  have S0 : Fx p m c cX0_coreOfCpu 1 s args RX0 := ⟨hx, hb, hml, hown, hts⟩
  have hl : lv_has ls 1 [(0, .int c9)] := hl
  refine lv_iload_n hx hb dX0_coreOfCpu_0 rfl (lv_at hl 0 rfl) ?_
  refine lv_iconst (v := 2) hx hb dX0_coreOfCpu_1 (by decide) ?_
  refine lv_idiv hx hb dX0_coreOfCpu_2 (by decide) ?_
  exact rt_NI hQ hx hb hr hlocks rfl dX0_coreOfCpu_3
def f_X0_isQueued (T C : Nat) (σ : St) (t : Int32) (c9 : Int32) : Int32 := (if (σ.1 0 (ix t)) = c9 then (if (f_X0_isRunnable T C σ t) = 0 then 0 else 1) else 0)
def rm_X0_isQueued : Room := { frames := 1, cells := 0, slots := 0, locals := 21 }
set_option maxHeartbeats 4000000 in
set_option maxRecDepth 100000 in
theorem k_X0_isQueued (l : Launch) (E : Ev) (q : Nat → Nat) (hq : Dq q) {T C : Nat} (hT : T ≤ 16) (hC : 1 ≤ C ∧ C ≤ 4) (σ : St) (hI : Inv T C σ) (t : Int32) (c9 : Int32) (hp0 : vp_in t 16) : RI l 0 E q σ yX0_isQueued cX0_isQueued 3 (some .boolean) rm_X0_isQueued [.int t, .int c9] (f_X0_isQueued T C σ t c9) True := by
  refine Met.ofB (by decide) (Nat.le_of_ble_eq_true rfl) (fun p e s m args below meth c ls Q B hQ hPK hl => ?_)
  obtain ⟨hx, hb, hml, hr, hlocks, hown, hts⟩ := B
  have S0 : Fx p m c cX0_isQueued 3 s args RX0 := ⟨hx, hb, hml, hown, hts⟩
  obtain ⟨hP, hK⟩ := hPK
  have hl : lv_has ls 3 [(0, .ref (q 0)), (1, .int t), (2, .int c9)] := hl
  refine lv_aload_n hx hb dX0_isQueued_0 rfl (lv_at hl 0 rfl) ?_
  refine gf_X0_9 hx hb hts hown hK hP dX0_isQueued_1 ?_
  refine lv_iload_n hx hb dX0_isQueued_4 rfl (lv_at hl 1 rfl) ?_
  refine ld_0 hx hb hK hP hp0 dX0_isQueued_5 ?_
  refine lv_iload_n hx hb dX0_isQueued_6 rfl (lv_at hl 2 rfl) ?_
  refine cutG (fun ls H locs st => ∃ y0 : Int32, y0 = (if (σ.1 0 (ix t)) = c9 then (if (f_X0_isRunnable T C σ t) = 0 then 0 else 1) else 0) ∧ st = [.int y0] ∧ lv_has ls 3 [(0, .ref (q 0)), (1, .int t), (2, .int c9)] ∧ H = s.heap ∧ locs = []) 23 (fun ls H locs st hKp => ?_) (fun K7 => ?_)
  · obtain ⟨_, rfl, rfl, hl, rfl, rfl⟩ := hKp
    exact rt_RZ hQ hx hb hr hlocks (nb_ite (nb_ite nb_0 nb_1) nb_0) ⟨rfl, trivial⟩ dX0_isQueued_23
  · refine lv_icmp_ne (tgt := 22) hx hb dX0_isQueued_7 (by decide) (fun h7 => ?_) (fun h7 => ?_)
    · skip
      refine lv_iconst (v := 0) hx hb dX0_isQueued_22 (by decide) ?_
      exact K7 _ _ _ _ ⟨0, (Eq.symm (if_neg h7)), rfl, lv_sub hl [0, 1, 2] rfl, rfl, rfl⟩
    · skip
      refine lv_aload_n hx hb dX0_isQueued_10 rfl (lv_at hl 0 rfl) ?_
      refine lv_iload_n hx hb dX0_isQueued_11 rfl (lv_at hl 1 rfl) ?_
      refine cl_RI (k_X0_isRunnable l E q hq hT hC σ hI t hp0) gw_X0_99 hd_X0_isRunnable ⟨rfl, rfl⟩ S0 hK hP (rest := []) rfl hl.1 (Nat.le_of_ble_eq_true rfl) ⟨(Nat.le_of_ble_eq_true rfl), (Nat.le_of_ble_eq_true rfl)⟩ ⟨Nat.zero_le _, Nat.zero_le _⟩ dX0_isQueued_12 (fun hex => ?_)
      refine lv_if_eq (tgt := 22) hx hb dX0_isQueued_15 (by decide) (fun h15 => ?_) (fun h15 => ?_)
      · skip
        refine lv_iconst (v := 0) hx hb dX0_isQueued_22 (by decide) ?_
        exact K7 _ _ _ _ ⟨0, (Eq.symm (Eq.trans (if_pos h7) (if_pos h15))), rfl, lv_sub hl [0, 1, 2] rfl, rfl, rfl⟩
      · skip
        refine lv_iconst (v := 1) hx hb dX0_isQueued_18 (by decide) ?_
        refine lv_goto (tgt := 23) hx hb dX0_isQueued_19 (by decide) ?_
        exact K7 _ _ _ _ ⟨1, (Eq.symm (Eq.trans (if_pos h7) (if_neg h15))), rfl, lv_sub hl [0, 1, 2] rfl, rfl, rfl⟩
def f_X0_isOnCore (T C : Nat) (σ : St) (t : Int32) (r9 : Int32) : Int32 := (if (f_X0_coreOfCpu (σ.1 0 (ix t))) = r9 then 1 else 0)
def rm_X0_isOnCore : Room := { frames := 1, cells := 0, slots := 0, locals := 20 }
set_option maxHeartbeats 4000000 in
set_option maxRecDepth 100000 in
theorem k_X0_isOnCore (l : Launch) (E : Ev) (q : Nat → Nat) (hq : Dq q) {T C : Nat} (hT : T ≤ 16) (hC : 1 ≤ C ∧ C ≤ 4) (σ : St) (hI : Inv T C σ) (t : Int32) (r9 : Int32) (hp0 : vp_in t 16) : RI l 0 E q σ yX0_isOnCore cX0_isOnCore 3 (some .boolean) rm_X0_isOnCore [.int t, .int r9] (f_X0_isOnCore T C σ t r9) True := by
  refine Met.ofB (by decide) (Nat.le_of_ble_eq_true rfl) (fun p e s m args below meth c ls Q B hQ hPK hl => ?_)
  obtain ⟨hx, hb, hml, hr, hlocks, hown, hts⟩ := B
  have S0 : Fx p m c cX0_isOnCore 3 s args RX0 := ⟨hx, hb, hml, hown, hts⟩
  obtain ⟨hP, hK⟩ := hPK
  have hl : lv_has ls 3 [(0, .ref (q 0)), (1, .int t), (2, .int r9)] := hl
  refine lv_aload_n hx hb dX0_isOnCore_0 rfl (lv_at hl 0 rfl) ?_
  refine gf_X0_9 hx hb hts hown hK hP dX0_isOnCore_1 ?_
  refine lv_iload_n hx hb dX0_isOnCore_4 rfl (lv_at hl 1 rfl) ?_
  refine ld_0 hx hb hK hP hp0 dX0_isOnCore_5 ?_
  refine cl_NI (k_X0_coreOfCpu l (σ.1 0 (ix t))) gw_X0_160 hd_X0_coreOfCpu ⟨rfl, rfl⟩ S0 (rest := []) rfl hl.1 (Nat.le_of_ble_eq_true rfl) ⟨(Nat.le_of_ble_eq_true rfl), (Nat.le_of_ble_eq_true rfl)⟩ ⟨Nat.zero_le _, Nat.zero_le _⟩ dX0_isOnCore_6 ?_
  refine lv_iload_n hx hb dX0_isOnCore_9 rfl (lv_at hl 2 rfl) ?_
  refine cutG (fun ls H locs st => ∃ y0 : Int32, y0 = (if (f_X0_coreOfCpu (σ.1 0 (ix t))) = r9 then 1 else 0) ∧ st = [.int y0] ∧ lv_has ls 3 [(0, .ref (q 0)), (1, .int t), (2, .int r9)] ∧ H = s.heap ∧ locs = []) 18 (fun ls H locs st hKp => ?_) (fun K10 => ?_)
  · obtain ⟨_, rfl, rfl, hl, rfl, rfl⟩ := hKp
    exact rt_RZ hQ hx hb hr hlocks (nb_ite nb_1 nb_0) ⟨rfl, trivial⟩ dX0_isOnCore_18
  · refine lv_icmp_ne (tgt := 17) hx hb dX0_isOnCore_10 (by decide) (fun h10 => ?_) (fun h10 => ?_)
    · skip
      refine lv_iconst (v := 0) hx hb dX0_isOnCore_17 (by decide) ?_
      exact K10 _ _ _ _ ⟨0, (Eq.symm (if_neg h10)), rfl, lv_sub hl [0, 1, 2] rfl, rfl, rfl⟩
    · skip
      refine lv_iconst (v := 1) hx hb dX0_isOnCore_13 (by decide) ?_
      refine lv_goto (tgt := 18) hx hb dX0_isOnCore_14 (by decide) ?_
      exact K10 _ _ _ _ ⟨1, (Eq.symm (if_pos h10)), rfl, lv_sub hl [0, 1, 2] rfl, rfl, rfl⟩
def f_X0_relativeTime (T C : Nat) (σ : St) (t : Int32) : Int64 := ((σ.2.1 4 (ix t)) - (σ.2.1 7 (ix (σ.1 0 (ix t)))))
def rm_X0_relativeTime : Room := { frames := 0, cells := 0, slots := 0, locals := 0 }
set_option maxHeartbeats 4000000 in
set_option maxRecDepth 100000 in
theorem k_X0_relativeTime (l : Launch) (E : Ev) (q : Nat → Nat) (hq : Dq q) {T C : Nat} (hT : T ≤ 16) (hC : 1 ≤ C ∧ C ≤ 4) (σ : St) (hI : Inv T C σ) (t : Int32) (hp0 : vp_in t 16) : RJ l 0 E q σ yX0_relativeTime cX0_relativeTime 2 (some .long) rm_X0_relativeTime [.int t] (f_X0_relativeTime T C σ t) True := by
  refine Met.ofB (by decide) (Nat.le_of_ble_eq_true rfl) (fun p e s m args below meth c ls Q B hQ hPK hl => ?_)
  obtain ⟨hx, hb, hml, hr, hlocks, hown, hts⟩ := B
  have S0 : Fx p m c cX0_relativeTime 2 s args RX0 := ⟨hx, hb, hml, hown, hts⟩
  obtain ⟨hP, hK⟩ := hPK
  have hl : lv_has ls 2 [(0, .ref (q 0)), (1, .int t)] := hl
  refine lv_aload_n hx hb dX0_relativeTime_0 rfl (lv_at hl 0 rfl) ?_
  refine gf_X0_22 hx hb hts hown hK hP dX0_relativeTime_1 ?_
  refine lv_iload_n hx hb dX0_relativeTime_4 rfl (lv_at hl 1 rfl) ?_
  refine ld_4 hx hb hK hP hp0 dX0_relativeTime_5 ?_
  refine lv_aload_n hx hb dX0_relativeTime_6 rfl (lv_at hl 0 rfl) ?_
  refine gf_X0_32 hx hb hts hown hK hP dX0_relativeTime_7 ?_
  refine lv_aload_n hx hb dX0_relativeTime_10 rfl (lv_at hl 0 rfl) ?_
  refine gf_X0_9 hx hb hts hown hK hP dX0_relativeTime_11 ?_
  refine lv_iload_n hx hb dX0_relativeTime_14 rfl (lv_at hl 1 rfl) ?_
  refine ld_0 hx hb hK hP hp0 dX0_relativeTime_15 ?_
  refine ld_7 hx hb hK hP (hI.1 _) dX0_relativeTime_16 ?_
  refine lv_lsub hx hb dX0_relativeTime_17 ?_
  exact rt_RJ hQ hx hb hr hlocks ⟨rfl, trivial⟩ dX0_relativeTime_18
def f_X0_comesBefore (T C : Nat) (σ : St) (t : Int32) (o9 : Int32) : Int32 := (if o9 = (-1) then 1 else (if (lg_cmp (f_X0_relativeTime T C σ t) (f_X0_relativeTime T C σ o9)) < 0 then 1 else (if (lg_cmp (f_X0_relativeTime T C σ t) (f_X0_relativeTime T C σ o9)) = 0 then (if o9 ≤ t then 0 else 1) else 0)))
def rm_X0_comesBefore : Room := { frames := 1, cells := 0, slots := 0, locals := 21 }
set_option maxHeartbeats 4000000 in
set_option maxRecDepth 100000 in
theorem k_X0_comesBefore (l : Launch) (E : Ev) (q : Nat → Nat) (hq : Dq q) {T C : Nat} (hT : T ≤ 16) (hC : 1 ≤ C ∧ C ≤ 4) (σ : St) (hI : Inv T C σ) (t : Int32) (o9 : Int32) (hp0 : vp_in t 16) (hp1 : vo o9) : RI l 0 E q σ yX0_comesBefore cX0_comesBefore 7 (some .boolean) rm_X0_comesBefore [.int t, .int o9] (f_X0_comesBefore T C σ t o9) True := by
  refine Met.ofB (by decide) (Nat.le_of_ble_eq_true rfl) (fun p e s m args below meth c ls Q B hQ hPK hl => ?_)
  obtain ⟨hx, hb, hml, hr, hlocks, hown, hts⟩ := B
  have S0 : Fx p m c cX0_comesBefore 7 s args RX0 := ⟨hx, hb, hml, hown, hts⟩
  obtain ⟨hP, hK⟩ := hPK
  have hl : lv_has ls 7 [(0, .ref (q 0)), (1, .int t), (2, .int o9)] := hl
  refine lv_iload_n hx hb dX0_comesBefore_0 rfl (lv_at hl 2 rfl) ?_
  refine lv_iconst (v := -1) hx hb dX0_comesBefore_1 (by decide) ?_
  refine lv_icmp_ne (tgt := 7) hx hb dX0_comesBefore_2 (by decide) (fun h2 => ?_) (fun h2 => ?_)
  · skip
    refine lv_aload_n hx hb dX0_comesBefore_7 rfl (lv_at hl 0 rfl) ?_
    refine lv_iload_n hx hb dX0_comesBefore_8 rfl (lv_at hl 1 rfl) ?_
    refine cl_RJ (k_X0_relativeTime l E q hq hT hC σ hI t hp0) gw_X0_163 hd_X0_relativeTime ⟨rfl, rfl⟩ S0 hK hP (rest := []) rfl hl.1 (Nat.le_of_ble_eq_true rfl) ⟨(Nat.le_of_ble_eq_true rfl), (Nat.le_of_ble_eq_true rfl)⟩ ⟨Nat.zero_le _, Nat.zero_le _⟩ dX0_comesBefore_9 (fun hex => ?_)
    refine lv_lstore_n (lv' := [(3, .long (f_X0_relativeTime T C σ t)), (0, .ref (q 0)), (1, .int t), (2, .int o9)]) hx hb dX0_comesBefore_12 rfl hl (by decide) rfl (fun ls hl => ?_)
    refine lv_aload_n hx hb dX0_comesBefore_13 rfl (lv_at hl 1 rfl) ?_
    refine lv_iload_n hx hb dX0_comesBefore_14 rfl (lv_at hl 3 rfl) ?_
    refine cl_RJ (k_X0_relativeTime l E q hq hT hC σ hI o9 (vo.in hp1 h2)) gw_X0_163 hd_X0_relativeTime ⟨rfl, rfl⟩ S0 hK hP (rest := []) rfl hl.1 (Nat.le_of_ble_eq_true rfl) ⟨(Nat.le_of_ble_eq_true rfl), (Nat.le_of_ble_eq_true rfl)⟩ ⟨Nat.zero_le _, Nat.zero_le _⟩ dX0_comesBefore_15 (fun hex => ?_)
    refine lv_lstore (lv' := [(5, .long (f_X0_relativeTime T C σ o9)), (3, .long (f_X0_relativeTime T C σ t)), (0, .ref (q 0)), (1, .int t), (2, .int o9)]) hx hb dX0_comesBefore_18 hl (by decide) rfl (fun ls hl => ?_)
    refine lv_lload_n hx hb dX0_comesBefore_20 rfl (lv_at hl 1 rfl) ?_
    refine lv_lload hx hb dX0_comesBefore_21 (lv_at hl 0 rfl) ?_
    refine W.lcmp hx hb dX0_comesBefore_23 ?_
    refine cutG (fun ls H locs st => ∃ y0 : Int32, y0 = (if (lg_cmp (f_X0_relativeTime T C σ t) (f_X0_relativeTime T C σ o9)) < 0 then 1 else (if (lg_cmp (f_X0_relativeTime T C σ t) (f_X0_relativeTime T C σ o9)) = 0 then (if o9 ≤ t then 0 else 1) else 0)) ∧ st = [.int y0] ∧ lv_has ls 7 [(5, .long (f_X0_relativeTime T C σ o9)), (3, .long (f_X0_relativeTime T C σ t)), (0, .ref (q 0)), (1, .int t), (2, .int o9)] ∧ H = s.heap ∧ locs = []) 44 (fun ls H locs st hKp => ?_) (fun K24 => ?_)
    · obtain ⟨_, rfl, rfl, hl, rfl, rfl⟩ := hKp
      exact rt_RZ hQ hx hb hr hlocks (nb_ite nb_1 (nb_ite (nb_ite nb_0 nb_1) nb_0)) ⟨(Eq.symm (if_neg h2)), trivial⟩ dX0_comesBefore_44
    · refine lv_if_lt (tgt := 39) hx hb dX0_comesBefore_24 (by decide) (fun h24 => ?_) (fun h24 => ?_)
      · skip
        refine lv_iconst (v := 1) hx hb dX0_comesBefore_39 (by decide) ?_
        refine lv_goto (tgt := 44) hx hb dX0_comesBefore_40 (by decide) ?_
        exact K24 _ _ _ _ ⟨1, (Eq.symm (if_pos h24)), rfl, lv_sub hl [0, 1, 2, 3, 4] rfl, rfl, rfl⟩
      · skip
        refine lv_lload_n hx hb dX0_comesBefore_27 rfl (lv_at hl 1 rfl) ?_
        refine lv_lload hx hb dX0_comesBefore_28 (lv_at hl 0 rfl) ?_
        refine W.lcmp hx hb dX0_comesBefore_30 ?_
        refine lv_if_ne (tgt := 43) hx hb dX0_comesBefore_31 (by decide) (fun h31 => ?_) (fun h31 => ?_)
        · skip
          refine lv_iconst (v := 0) hx hb dX0_comesBefore_43 (by decide) ?_
          exact K24 _ _ _ _ ⟨0, (Eq.symm (Eq.trans (if_neg h24) (if_neg h31))), rfl, lv_sub hl [0, 1, 2, 3, 4] rfl, rfl, rfl⟩
        · skip
          refine lv_iload_n hx hb dX0_comesBefore_34 rfl (lv_at hl 3 rfl) ?_
          refine lv_iload_n hx hb dX0_comesBefore_35 rfl (lv_at hl 4 rfl) ?_
          refine lv_icmp_ge (tgt := 43) hx hb dX0_comesBefore_36 (by decide) (fun h36 => ?_) (fun h36 => ?_)
          · skip
            refine lv_iconst (v := 0) hx hb dX0_comesBefore_43 (by decide) ?_
            exact K24 _ _ _ _ ⟨0, (Eq.symm (Eq.trans (Eq.trans (if_neg h24) (if_pos h31)) (if_pos h36))), rfl, lv_sub hl [0, 1, 2, 3, 4] rfl, rfl, rfl⟩
          · skip
            refine lv_iconst (v := 1) hx hb dX0_comesBefore_39 (by decide) ?_
            refine lv_goto (tgt := 44) hx hb dX0_comesBefore_40 (by decide) ?_
            exact K24 _ _ _ _ ⟨1, (Eq.symm (Eq.trans (Eq.trans (if_neg h24) (if_pos h31)) (if_neg h36))), rfl, lv_sub hl [0, 1, 2, 3, 4] rfl, rfl, rfl⟩
  · skip
    refine lv_iconst (v := 1) hx hb dX0_comesBefore_5 (by decide) ?_
    exact rt_RZ hQ hx hb hr hlocks nb_1 ⟨(Eq.symm (if_pos h2)), trivial⟩ dX0_comesBefore_6
def F_X0_findLeader_4 (T : Nat) (C : Nat) (σ : St) (r9 : Int32) : Nat → Int32 → Int32 := fun i_4 z => (if (f_X0_isRunnable T C σ (nI i_4)) = 0 then z else (if (f_X0_isOnCore T C σ (nI i_4) r9) = 0 then z else (if (f_X0_comesBefore T C σ (nI i_4) z) = 0 then z else (nI i_4))))
def f_X0_findLeader (T C : Nat) (σ : St) (r9 : Int32) : Int32 := (lp (F_X0_findLeader_4 T C σ r9) T 0 (-1))
def rm_X0_findLeader : Room := { frames := 2, cells := 0, slots := 0, locals := 47 }
set_option maxHeartbeats 4000000 in
set_option maxRecDepth 100000 in
theorem k_X0_findLeader (l : Launch) (E : Ev) (q : Nat → Nat) (hq : Dq q) {T C : Nat} (hT : T ≤ 16) (hC : 1 ≤ C ∧ C ≤ 4) (σ : St) (hI : Inv T C σ) (r9 : Int32) : RI l 0 E q σ yX0_findLeader cX0_findLeader 4 (some .int) rm_X0_findLeader [.int r9] (f_X0_findLeader T C σ r9) (vo (f_X0_findLeader T C σ r9) ∧ True) := by
  refine Met.ofB (by decide) (Nat.le_of_ble_eq_true rfl) (fun p e s m args below meth c ls Q B hQ hPK hl => ?_)
  obtain ⟨hx, hb, hml, hr, hlocks, hown, hts⟩ := B
  have S0 : Fx p m c cX0_findLeader 4 s args RX0 := ⟨hx, hb, hml, hown, hts⟩
  obtain ⟨hP, hK⟩ := hPK
  have hl : lv_has ls 4 [(0, .ref (q 0)), (1, .int r9)] := hl
  refine lv_iconst (v := -1) hx hb dX0_findLeader_0 (by decide) ?_
  refine lv_istore_n (lv' := [(2, .int (-1)), (0, .ref (q 0)), (1, .int r9)]) hx hb dX0_findLeader_1 rfl hl (by decide) rfl (fun ls hl => ?_)
  refine lv_iconst (v := 0) hx hb dX0_findLeader_2 (by decide) ?_
  refine lv_istore_n (lv' := [(3, .int 0), (2, .int (-1)), (0, .ref (q 0)), (1, .int r9)]) hx hb dX0_findLeader_3 rfl hl (by decide) rfl (fun ls hl => ?_)
  have L_4 : ∀ (n_4 i_4 : Nat) (a2_4 : Int32) (ls : Array Slot), i_4 + n_4 = T → lp (F_X0_findLeader_4 T C σ r9) n_4 i_4 a2_4 = (lp (F_X0_findLeader_4 T C σ r9) T 0 (-1)) → vo a2_4 → lv_has ls 4 [(3, .int (nI i_4)), (2, .int a2_4), (0, .ref (q 0)), (1, .int r9)] → W p l e rm_X0_findLeader s m args below meth c s.heap [] 0 0 Q (F0 m 4 ls []) := by
    intro n_4
    induction n_4 with
    | zero =>
      intro i_4 a2_4 ls hi_4 hres hvo_a2_4 hl
      have hres : a2_4 = (lp (F_X0_findLeader_4 T C σ r9) T 0 (-1)) := hres
      subst hres
      refine lv_iload_n hx hb dX0_findLeader_4 rfl (lv_at hl 0 rfl) ?_
      refine lv_aload_n hx hb dX0_findLeader_5 rfl (lv_at hl 2 rfl) ?_
      refine gf_X0_85 hx hb hts hown hK hP dX0_findLeader_6 ?_
      refine lv_icmp_ge (tgt := 46) hx hb dX0_findLeader_9 (by decide) (fun _ => ?_) (fun h => absurd (lp_out hI.2.1 (by omega) hi_4) h)
      have hl := lv_sub (l' := [(2, .int (lp (F_X0_findLeader_4 T C σ r9) T 0 (-1))), (0, .ref (q 0)), (1, .int r9)]) hl [1, 2, 3] rfl
      refine lv_iload_n hx hb dX0_findLeader_46 rfl (lv_at hl 0 rfl) ?_
      exact rt_RI hQ hx hb hr hlocks ⟨rfl, ⟨Eq.subst (motive := fun z => vo z) (show (lp (F_X0_findLeader_4 T C σ r9) T 0 (-1)) = (f_X0_findLeader T C σ r9) from rfl) (show vo (lp (F_X0_findLeader_4 T C σ r9) T 0 (-1)) from hvo_a2_4), trivial⟩⟩ dX0_findLeader_47
    | succ n_4 ih_4 =>
      intro i_4 a2_4 ls hi_4 hres hvo_a2_4 hl
      refine lv_iload_n hx hb dX0_findLeader_4 rfl (lv_at hl 0 rfl) ?_
      refine lv_aload_n hx hb dX0_findLeader_5 rfl (lv_at hl 2 rfl) ?_
      refine gf_X0_85 hx hb hts hown hK hP dX0_findLeader_6 ?_
      refine lv_icmp_ge (tgt := 46) hx hb dX0_findLeader_9 (by decide) (fun h => absurd h (lp_in hI.2.1 (by omega) hi_4)) (fun _ => ?_)
      refine lv_aload_n hx hb dX0_findLeader_12 rfl (lv_at hl 2 rfl) ?_
      refine lv_iload_n hx hb dX0_findLeader_13 rfl (lv_at hl 0 rfl) ?_
      refine cl_RI (k_X0_isRunnable l E q hq hT hC σ hI (nI i_4) (vp_in_nI (by omega) (by decide))) gw_X0_99 hd_X0_isRunnable ⟨rfl, rfl⟩ S0 hK hP (rest := []) rfl hl.1 (Nat.le_of_ble_eq_true rfl) ⟨(Nat.le_of_ble_eq_true rfl), (Nat.le_of_ble_eq_true rfl)⟩ ⟨Nat.zero_le _, Nat.zero_le _⟩ dX0_findLeader_14 (fun hex => ?_)
      refine cutG (fun ls H locs st => ∃ x2 : Int32, x2 = (if (f_X0_isRunnable T C σ (nI i_4)) = 0 then a2_4 else (if (f_X0_isOnCore T C σ (nI i_4) r9) = 0 then a2_4 else (if (f_X0_comesBefore T C σ (nI i_4) a2_4) = 0 then a2_4 else (nI i_4)))) ∧ st = [] ∧ lv_has ls 4 [(3, .int (nI i_4)), (2, .int x2), (0, .ref (q 0)), (1, .int r9)] ∧ H = s.heap ∧ locs = []) 40 (fun ls H locs st hKp => ?_) (fun K17 => ?_)
      · obtain ⟨_, rfl, rfl, hl, rfl, rfl⟩ := hKp
        refine lv_iinc (v := (nI (i_4 + 1))) (lv' := [(3, .int (nI (i_4 + 1))), (2, .int (if (f_X0_isRunnable T C σ (nI i_4)) = 0 then a2_4 else (if (f_X0_isOnCore T C σ (nI i_4) r9) = 0 then a2_4 else (if (f_X0_comesBefore T C σ (nI i_4) a2_4) = 0 then a2_4 else (nI i_4))))), (0, .ref (q 0)), (1, .int r9)]) hx hb dX0_findLeader_40 hl (k := 0) rfl (nI_1 _) (by decide) rfl (fun ls hl => ?_)
        refine lv_goto (tgt := 4) hx hb dX0_findLeader_43 (by decide) ?_
        exact ih_4 (i_4 + 1) (if (f_X0_isRunnable T C σ (nI i_4)) = 0 then a2_4 else (if (f_X0_isOnCore T C σ (nI i_4) r9) = 0 then a2_4 else (if (f_X0_comesBefore T C σ (nI i_4) a2_4) = 0 then a2_4 else (nI i_4)))) ls (by omega) hres (Eq.subst (motive := fun z => vo z) (show (if (f_X0_isRunnable T C σ (nI i_4)) = 0 then a2_4 else (if (f_X0_isOnCore T C σ (nI i_4) r9) = 0 then a2_4 else (if (f_X0_comesBefore T C σ (nI i_4) a2_4) = 0 then a2_4 else (nI i_4)))) = (if (f_X0_isRunnable T C σ (nI i_4)) = 0 then a2_4 else (if (f_X0_isOnCore T C σ (nI i_4) r9) = 0 then a2_4 else (if (f_X0_comesBefore T C σ (nI i_4) a2_4) = 0 then a2_4 else (nI i_4)))) from rfl) (show vo (if (f_X0_isRunnable T C σ (nI i_4)) = 0 then a2_4 else (if (f_X0_isOnCore T C σ (nI i_4) r9) = 0 then a2_4 else (if (f_X0_comesBefore T C σ (nI i_4) a2_4) = 0 then a2_4 else (nI i_4)))) from (vo.ite hvo_a2_4 (vo.ite hvo_a2_4 (vo.ite hvo_a2_4 (vo_nI (by omega))))))) (lv_sub (l' := [(3, .int (nI (i_4 + 1))), (2, .int (if (f_X0_isRunnable T C σ (nI i_4)) = 0 then a2_4 else (if (f_X0_isOnCore T C σ (nI i_4) r9) = 0 then a2_4 else (if (f_X0_comesBefore T C σ (nI i_4) a2_4) = 0 then a2_4 else (nI i_4))))), (0, .ref (q 0)), (1, .int r9)]) hl [0, 1, 2, 3] rfl)
      · refine lv_if_eq (tgt := 40) hx hb dX0_findLeader_17 (by decide) (fun h17 => ?_) (fun h17 => ?_)
        · skip
          exact K17 _ _ _ _ ⟨a2_4, (Eq.symm (if_pos h17)), rfl, lv_sub hl [0, 1, 2, 3] rfl, rfl, rfl⟩
        · skip
          refine lv_aload_n hx hb dX0_findLeader_20 rfl (lv_at hl 2 rfl) ?_
          refine lv_iload_n hx hb dX0_findLeader_21 rfl (lv_at hl 0 rfl) ?_
          refine lv_iload_n hx hb dX0_findLeader_22 rfl (lv_at hl 3 rfl) ?_
          refine cl_RI (k_X0_isOnCore l E q hq hT hC σ hI (nI i_4) r9 (vp_in_nI (by omega) (by decide))) gw_X0_185 hd_X0_isOnCore ⟨rfl, rfl⟩ S0 hK hP (rest := []) rfl hl.1 (Nat.le_of_ble_eq_true rfl) ⟨(Nat.le_of_ble_eq_true rfl), (Nat.le_of_ble_eq_true rfl)⟩ ⟨Nat.zero_le _, Nat.zero_le _⟩ dX0_findLeader_23 (fun hex => ?_)
          refine lv_if_eq (tgt := 40) hx hb dX0_findLeader_26 (by decide) (fun h26 => ?_) (fun h26 => ?_)
          · skip
            exact K17 _ _ _ _ ⟨a2_4, (Eq.symm (Eq.trans (if_neg h17) (if_pos h26))), rfl, lv_sub hl [0, 1, 2, 3] rfl, rfl, rfl⟩
          · skip
            refine lv_aload_n hx hb dX0_findLeader_29 rfl (lv_at hl 2 rfl) ?_
            refine lv_iload_n hx hb dX0_findLeader_30 rfl (lv_at hl 0 rfl) ?_
            refine lv_iload_n hx hb dX0_findLeader_31 rfl (lv_at hl 1 rfl) ?_
            refine cl_RI (k_X0_comesBefore l E q hq hT hC σ hI (nI i_4) a2_4 (vp_in_nI (by omega) (by decide)) hvo_a2_4) gw_X0_167 hd_X0_comesBefore ⟨rfl, rfl⟩ S0 hK hP (rest := []) rfl hl.1 (Nat.le_of_ble_eq_true rfl) ⟨(Nat.le_of_ble_eq_true rfl), (Nat.le_of_ble_eq_true rfl)⟩ ⟨Nat.zero_le _, Nat.zero_le _⟩ dX0_findLeader_32 (fun hex => ?_)
            refine lv_if_eq (tgt := 40) hx hb dX0_findLeader_35 (by decide) (fun h35 => ?_) (fun h35 => ?_)
            · skip
              exact K17 _ _ _ _ ⟨a2_4, (Eq.symm (Eq.trans (Eq.trans (if_neg h17) (if_neg h26)) (if_pos h35))), rfl, lv_sub hl [0, 1, 2, 3] rfl, rfl, rfl⟩
            · skip
              refine lv_iload_n hx hb dX0_findLeader_38 rfl (lv_at hl 0 rfl) ?_
              refine lv_istore_n (lv' := [(2, .int (nI i_4)), (3, .int (nI i_4)), (0, .ref (q 0)), (1, .int r9)]) hx hb dX0_findLeader_39 rfl hl (by decide) rfl (fun ls hl => ?_)
              exact K17 _ _ _ _ ⟨(nI i_4), (Eq.symm (Eq.trans (Eq.trans (if_neg h17) (if_neg h26)) (if_neg h35))), rfl, lv_sub hl [1, 0, 2, 3] rfl, rfl, rfl⟩
  exact L_4 T 0 (-1) ls (Nat.zero_add T) rfl vo_1 (lv_sub hl [0, 1, 2, 3] rfl)
end
section
theorem divle {x : Int32} (h : (1 : Int32) ≤ x) : ¬ x = 0 := fun e => absurd h (by rw [e]; decide)
theorem nbf {x : Int32} (h : x = 0 ∨ x = 1) : narrow .boolean (.int x) = .int x ∧ fits .boolean (.int x) = true := by rcases h with rfl | rfl <;> exact ⟨rfl, rfl⟩
theorem mx_ml : Cond.methodLink RX0 170 Lib.MathLoose.max_long.x ∈ lw_all := ml_X0_170
theorem mx_st : Cond.static Lib.MathLoose.max_long.x ∈ lw_all := st_J9_max_f86c9
theorem mx_cd : Cond.code Lib.MathLoose.max_long.x Lib.MathLoose.max_long.code 4 (some .long) ∈ lw_all := by have h := cd_J9_max_f86c9; exact h
theorem mmx {p : Program} {l : Launch} {e : Env} {R : Room} {s : State} {m : MethodId} {args : Array Value} {below : List Frame} {meth : Method} {c : Code} {H : Heap} {locs : List Loc} {cells slots : Nat} {Q : State → Prop} {cc : ByteArray} {pc : Nat} {ls : Array Slot} {rest : List Value} (hx : p.tables.exec = Jvm.exec) (hb : c.code = cc) (hml : c.maxLocals = ls.size) (hown : s.vm.findClass RX0 = some m.cls) (hts : ∀ w ∈ lw_all, w.before args s = true)
    (hframes : 1 ≤ R.frames) (hlocals : (rest.map fun v => v.category).sum + 15 ≤ R.locals) (hcs : cells ≤ R.cells ∧ slots ≤ R.slots) {x y : Int64} (hdg : decode cc pc = .ok (.invokestatic 170, 3))
    (kk : W p l e R s m args below meth c H locs cells slots Q (F0 m (pc + 3) ls (.long (if y < x then x else y) :: rest))) : W p l e R s m args below meth c H locs cells slots Q (F0 m pc ls (.long y :: .long x :: rest)) :=
  va_mmax_long hx hb hml hown (hts _ mx_ml) (hts _ mx_st) (hts _ ini_J9) (hts _ mx_cd) hframes hlocals hcs.1 hcs.2 hdg kk
theorem cpuT {T C : Nat} {σ : St} (hI : Inv T C σ) : (2 : Int32) * σ.2.2 13 = nI (2 * C) := by
  rw [hI.2.2.1]
  show Int32.ofNat 2 * Int32.ofNat C = Int32.ofNat (2 * C)
  exact (Int32.ofNat_mul 2 C).symm
theorem mul2 (j : Nat) : (2 : Int32) * nI j = nI (2 * j) := (Int32.ofNat_mul 2 j).symm
theorem nI_p2 (a : Nat) : nI a + 2 = nI (a + 2) := nI_add a 2
def f_X0_cpuTotal (T C : Nat) (σ : St) : Int32 := (2 * (σ.2.2 13))
def rm_X0_cpuTotal : Room := { frames := 0, cells := 0, slots := 0, locals := 0 }
set_option maxHeartbeats 4000000 in
set_option maxRecDepth 100000 in
theorem k_X0_cpuTotal (l : Launch) (E : Ev) (q : Nat → Nat) (hq : Dq q) {T C : Nat} (hT : T ≤ 16) (hC : 1 ≤ C ∧ C ≤ 4) (σ : St) (hI : Inv T C σ) : RI l 0 E q σ yX0_cpuTotal cX0_cpuTotal 1 (some .int) rm_X0_cpuTotal [] (f_X0_cpuTotal T C σ) True := by
  refine Met.ofB (by decide) (Nat.le_of_ble_eq_true rfl) (fun p e s m args below meth c ls Q B hQ hPK hl => ?_)
  obtain ⟨hx, hb, hml, hr, hlocks, hown, hts⟩ := B
  have S0 : Fx p m c cX0_cpuTotal 1 s args RX0 := ⟨hx, hb, hml, hown, hts⟩
  obtain ⟨hP, hK⟩ := hPK
  have hl : lv_has ls 1 [(0, .ref (q 0))] := hl
  refine lv_iconst (v := 2) hx hb dX0_cpuTotal_0 (by decide) ?_
  refine lv_aload_n hx hb dX0_cpuTotal_1 rfl (lv_at hl 0 rfl) ?_
  refine gf_X0_62 hx hb hts hown hK hP dX0_cpuTotal_2 ?_
  refine lv_imul hx hb dX0_cpuTotal_5 ?_
  exact rt_RI hQ hx hb hr hlocks ⟨rfl, trivial⟩ dX0_cpuTotal_6
def F_X0_positionOf_4 (T : Nat) (C : Nat) (σ : St) (t : Int32) : Nat → Int32 → Int32 := fun i_4 z => (if (f_X0_isQueued T C σ (nI i_4) (σ.1 0 (ix t))) = 0 then z else (if (f_X0_comesBefore T C σ (nI i_4) t) = 0 then z else (z + 1)))
def f_X0_positionOf (T C : Nat) (σ : St) (t : Int32) : Int32 := (lp (F_X0_positionOf_4 T C σ t) T 0 0)
def rm_X0_positionOf : Room := { frames := 2, cells := 0, slots := 0, locals := 47 }
set_option maxHeartbeats 4000000 in
set_option maxRecDepth 100000 in
theorem k_X0_positionOf (l : Launch) (E : Ev) (q : Nat → Nat) (hq : Dq q) {T C : Nat} (hT : T ≤ 16) (hC : 1 ≤ C ∧ C ≤ 4) (σ : St) (hI : Inv T C σ) (t : Int32) (hp0 : vp_in t 16) : RI l 0 E q σ yX0_positionOf cX0_positionOf 4 (some .int) rm_X0_positionOf [.int t] (f_X0_positionOf T C σ t) True := by
  refine Met.ofB (by decide) (Nat.le_of_ble_eq_true rfl) (fun p e s m args below meth c ls Q B hQ hPK hl => ?_)
  obtain ⟨hx, hb, hml, hr, hlocks, hown, hts⟩ := B
  have S0 : Fx p m c cX0_positionOf 4 s args RX0 := ⟨hx, hb, hml, hown, hts⟩
  obtain ⟨hP, hK⟩ := hPK
  have hl : lv_has ls 4 [(0, .ref (q 0)), (1, .int t)] := hl
  refine lv_iconst (v := 0) hx hb dX0_positionOf_0 (by decide) ?_
  refine lv_istore_n (lv' := [(2, .int 0), (0, .ref (q 0)), (1, .int t)]) hx hb dX0_positionOf_1 rfl hl (by decide) rfl (fun ls hl => ?_)
  refine lv_iconst (v := 0) hx hb dX0_positionOf_2 (by decide) ?_
  refine lv_istore_n (lv' := [(3, .int 0), (2, .int 0), (0, .ref (q 0)), (1, .int t)]) hx hb dX0_positionOf_3 rfl hl (by decide) rfl (fun ls hl => ?_)
  have L_4 : ∀ (n_4 i_4 : Nat) (a2_4 : Int32) (ls : Array Slot), i_4 + n_4 = T → lp (F_X0_positionOf_4 T C σ t) n_4 i_4 a2_4 = (lp (F_X0_positionOf_4 T C σ t) T 0 0) → lv_has ls 4 [(3, .int (nI i_4)), (2, .int a2_4), (0, .ref (q 0)), (1, .int t)] → W p l e rm_X0_positionOf s m args below meth c s.heap [] 0 0 Q (F0 m 4 ls []) := by
    intro n_4
    induction n_4 with
    | zero =>
      intro i_4 a2_4 ls hi_4 hres hl
      have hres : a2_4 = (lp (F_X0_positionOf_4 T C σ t) T 0 0) := hres
      subst hres
      refine lv_iload_n hx hb dX0_positionOf_4 rfl (lv_at hl 0 rfl) ?_
      refine lv_aload_n hx hb dX0_positionOf_5 rfl (lv_at hl 2 rfl) ?_
      refine gf_X0_85 hx hb hts hown hK hP dX0_positionOf_6 ?_
      refine lv_icmp_ge (tgt := 44) hx hb dX0_positionOf_9 (by decide) (fun _ => ?_) (fun h => absurd (lp_out hI.2.1 (by omega) hi_4) h)
      have hl := lv_sub (l' := [(2, .int (lp (F_X0_positionOf_4 T C σ t) T 0 0)), (0, .ref (q 0)), (1, .int t)]) hl [1, 2, 3] rfl
      refine lv_iload_n hx hb dX0_positionOf_44 rfl (lv_at hl 0 rfl) ?_
      exact rt_RI hQ hx hb hr hlocks ⟨rfl, trivial⟩ dX0_positionOf_45
    | succ n_4 ih_4 =>
      intro i_4 a2_4 ls hi_4 hres hl
      refine lv_iload_n hx hb dX0_positionOf_4 rfl (lv_at hl 0 rfl) ?_
      refine lv_aload_n hx hb dX0_positionOf_5 rfl (lv_at hl 2 rfl) ?_
      refine gf_X0_85 hx hb hts hown hK hP dX0_positionOf_6 ?_
      refine lv_icmp_ge (tgt := 44) hx hb dX0_positionOf_9 (by decide) (fun h => absurd h (lp_in hI.2.1 (by omega) hi_4)) (fun _ => ?_)
      refine lv_aload_n hx hb dX0_positionOf_12 rfl (lv_at hl 2 rfl) ?_
      refine lv_iload_n hx hb dX0_positionOf_13 rfl (lv_at hl 0 rfl) ?_
      refine lv_aload_n hx hb dX0_positionOf_14 rfl (lv_at hl 2 rfl) ?_
      refine gf_X0_9 hx hb hts hown hK hP dX0_positionOf_15 ?_
      refine lv_iload_n hx hb dX0_positionOf_18 rfl (lv_at hl 3 rfl) ?_
      refine ld_0 hx hb hK hP hp0 dX0_positionOf_19 ?_
      refine cl_RI (k_X0_isQueued l E q hq hT hC σ hI (nI i_4) (σ.1 0 (ix t)) (vp_in_nI (by omega) (by decide))) gw_X0_130 hd_X0_isQueued ⟨rfl, rfl⟩ S0 hK hP (rest := []) rfl hl.1 (Nat.le_of_ble_eq_true rfl) ⟨(Nat.le_of_ble_eq_true rfl), (Nat.le_of_ble_eq_true rfl)⟩ ⟨Nat.zero_le _, Nat.zero_le _⟩ dX0_positionOf_20 (fun hex => ?_)
      refine cutG (fun ls H locs st => ∃ x2 : Int32, x2 = (if (f_X0_isQueued T C σ (nI i_4) (σ.1 0 (ix t))) = 0 then a2_4 else (if (f_X0_comesBefore T C σ (nI i_4) t) = 0 then a2_4 else (a2_4 + 1))) ∧ st = [] ∧ lv_has ls 4 [(3, .int (nI i_4)), (2, .int x2), (0, .ref (q 0)), (1, .int t)] ∧ H = s.heap ∧ locs = []) 38 (fun ls H locs st hKp => ?_) (fun K23 => ?_)
      · obtain ⟨_, rfl, rfl, hl, rfl, rfl⟩ := hKp
        refine lv_iinc (v := (nI (i_4 + 1))) (lv' := [(3, .int (nI (i_4 + 1))), (2, .int (if (f_X0_isQueued T C σ (nI i_4) (σ.1 0 (ix t))) = 0 then a2_4 else (if (f_X0_comesBefore T C σ (nI i_4) t) = 0 then a2_4 else (a2_4 + 1)))), (0, .ref (q 0)), (1, .int t)]) hx hb dX0_positionOf_38 hl (k := 0) rfl (nI_1 _) (by decide) rfl (fun ls hl => ?_)
        refine lv_goto (tgt := 4) hx hb dX0_positionOf_41 (by decide) ?_
        exact ih_4 (i_4 + 1) (if (f_X0_isQueued T C σ (nI i_4) (σ.1 0 (ix t))) = 0 then a2_4 else (if (f_X0_comesBefore T C σ (nI i_4) t) = 0 then a2_4 else (a2_4 + 1))) ls (by omega) hres (lv_sub (l' := [(3, .int (nI (i_4 + 1))), (2, .int (if (f_X0_isQueued T C σ (nI i_4) (σ.1 0 (ix t))) = 0 then a2_4 else (if (f_X0_comesBefore T C σ (nI i_4) t) = 0 then a2_4 else (a2_4 + 1)))), (0, .ref (q 0)), (1, .int t)]) hl [0, 1, 2, 3] rfl)
      · refine lv_if_eq (tgt := 38) hx hb dX0_positionOf_23 (by decide) (fun h23 => ?_) (fun h23 => ?_)
        · skip
          exact K23 _ _ _ _ ⟨a2_4, (Eq.symm (if_pos h23)), rfl, lv_sub hl [0, 1, 2, 3] rfl, rfl, rfl⟩
        · skip
          refine lv_aload_n hx hb dX0_positionOf_26 rfl (lv_at hl 2 rfl) ?_
          refine lv_iload_n hx hb dX0_positionOf_27 rfl (lv_at hl 0 rfl) ?_
          refine lv_iload_n hx hb dX0_positionOf_28 rfl (lv_at hl 3 rfl) ?_
          refine cl_RI (k_X0_comesBefore l E q hq hT hC σ hI (nI i_4) t (vp_in_nI (by omega) (by decide)) (vo_in hp0)) gw_X0_167 hd_X0_comesBefore ⟨rfl, rfl⟩ S0 hK hP (rest := []) rfl hl.1 (Nat.le_of_ble_eq_true rfl) ⟨(Nat.le_of_ble_eq_true rfl), (Nat.le_of_ble_eq_true rfl)⟩ ⟨Nat.zero_le _, Nat.zero_le _⟩ dX0_positionOf_29 (fun hex => ?_)
          refine lv_if_eq (tgt := 38) hx hb dX0_positionOf_32 (by decide) (fun h32 => ?_) (fun h32 => ?_)
          · skip
            exact K23 _ _ _ _ ⟨a2_4, (Eq.symm (Eq.trans (if_neg h23) (if_pos h32))), rfl, lv_sub hl [0, 1, 2, 3] rfl, rfl, rfl⟩
          · skip
            refine lv_iinc (v := (a2_4 + 1)) (lv' := [(2, .int (a2_4 + 1)), (3, .int (nI i_4)), (0, .ref (q 0)), (1, .int t)]) hx hb dX0_positionOf_35 hl (k := 1) rfl rfl (by decide) rfl (fun ls hl => ?_)
            exact K23 _ _ _ _ ⟨(a2_4 + 1), (Eq.symm (Eq.trans (if_neg h23) (if_neg h32))), rfl, lv_sub hl [1, 0, 2, 3] rfl, rfl, rfl⟩
  exact L_4 T 0 0 ls (Nat.zero_add T) rfl (lv_sub hl [0, 1, 2, 3] rfl)
def F_X0_countQueue_4 (T : Nat) (C : Nat) (σ : St) (c9 : Int32) : Nat → Int32 → Int32 := fun i_4 z => (if (f_X0_isQueued T C σ (nI i_4) c9) = 0 then z else (z + 1))
def f_X0_countQueue (T C : Nat) (σ : St) (c9 : Int32) : Int32 := (lp (F_X0_countQueue_4 T C σ c9) T 0 0)
def rm_X0_countQueue : Room := { frames := 2, cells := 0, slots := 0, locals := 43 }
set_option maxHeartbeats 4000000 in
set_option maxRecDepth 100000 in
theorem k_X0_countQueue (l : Launch) (E : Ev) (q : Nat → Nat) (hq : Dq q) {T C : Nat} (hT : T ≤ 16) (hC : 1 ≤ C ∧ C ≤ 4) (σ : St) (hI : Inv T C σ) (c9 : Int32) : RI l 0 E q σ yX0_countQueue cX0_countQueue 4 (some .int) rm_X0_countQueue [.int c9] (f_X0_countQueue T C σ c9) True := by
  refine Met.ofB (by decide) (Nat.le_of_ble_eq_true rfl) (fun p e s m args below meth c ls Q B hQ hPK hl => ?_)
  obtain ⟨hx, hb, hml, hr, hlocks, hown, hts⟩ := B
  have S0 : Fx p m c cX0_countQueue 4 s args RX0 := ⟨hx, hb, hml, hown, hts⟩
  obtain ⟨hP, hK⟩ := hPK
  have hl : lv_has ls 4 [(0, .ref (q 0)), (1, .int c9)] := hl
  refine lv_iconst (v := 0) hx hb dX0_countQueue_0 (by decide) ?_
  refine lv_istore_n (lv' := [(2, .int 0), (0, .ref (q 0)), (1, .int c9)]) hx hb dX0_countQueue_1 rfl hl (by decide) rfl (fun ls hl => ?_)
  refine lv_iconst (v := 0) hx hb dX0_countQueue_2 (by decide) ?_
  refine lv_istore_n (lv' := [(3, .int 0), (2, .int 0), (0, .ref (q 0)), (1, .int c9)]) hx hb dX0_countQueue_3 rfl hl (by decide) rfl (fun ls hl => ?_)
  have L_4 : ∀ (n_4 i_4 : Nat) (a2_4 : Int32) (ls : Array Slot), i_4 + n_4 = T → lp (F_X0_countQueue_4 T C σ c9) n_4 i_4 a2_4 = (lp (F_X0_countQueue_4 T C σ c9) T 0 0) → lv_has ls 4 [(3, .int (nI i_4)), (2, .int a2_4), (0, .ref (q 0)), (1, .int c9)] → W p l e rm_X0_countQueue s m args below meth c s.heap [] 0 0 Q (F0 m 4 ls []) := by
    intro n_4
    induction n_4 with
    | zero =>
      intro i_4 a2_4 ls hi_4 hres hl
      have hres : a2_4 = (lp (F_X0_countQueue_4 T C σ c9) T 0 0) := hres
      subst hres
      refine lv_iload_n hx hb dX0_countQueue_4 rfl (lv_at hl 0 rfl) ?_
      refine lv_aload_n hx hb dX0_countQueue_5 rfl (lv_at hl 2 rfl) ?_
      refine gf_X0_85 hx hb hts hown hK hP dX0_countQueue_6 ?_
      refine lv_icmp_ge (tgt := 30) hx hb dX0_countQueue_9 (by decide) (fun _ => ?_) (fun h => absurd (lp_out hI.2.1 (by omega) hi_4) h)
      have hl := lv_sub (l' := [(2, .int (lp (F_X0_countQueue_4 T C σ c9) T 0 0)), (0, .ref (q 0)), (1, .int c9)]) hl [1, 2, 3] rfl
      refine lv_iload_n hx hb dX0_countQueue_30 rfl (lv_at hl 0 rfl) ?_
      exact rt_RI hQ hx hb hr hlocks ⟨rfl, trivial⟩ dX0_countQueue_31
    | succ n_4 ih_4 =>
      intro i_4 a2_4 ls hi_4 hres hl
      refine lv_iload_n hx hb dX0_countQueue_4 rfl (lv_at hl 0 rfl) ?_
      refine lv_aload_n hx hb dX0_countQueue_5 rfl (lv_at hl 2 rfl) ?_
      refine gf_X0_85 hx hb hts hown hK hP dX0_countQueue_6 ?_
      refine lv_icmp_ge (tgt := 30) hx hb dX0_countQueue_9 (by decide) (fun h => absurd h (lp_in hI.2.1 (by omega) hi_4)) (fun _ => ?_)
      refine lv_aload_n hx hb dX0_countQueue_12 rfl (lv_at hl 2 rfl) ?_
      refine lv_iload_n hx hb dX0_countQueue_13 rfl (lv_at hl 0 rfl) ?_
      refine lv_iload_n hx hb dX0_countQueue_14 rfl (lv_at hl 3 rfl) ?_
      refine cl_RI (k_X0_isQueued l E q hq hT hC σ hI (nI i_4) c9 (vp_in_nI (by omega) (by decide))) gw_X0_130 hd_X0_isQueued ⟨rfl, rfl⟩ S0 hK hP (rest := []) rfl hl.1 (Nat.le_of_ble_eq_true rfl) ⟨(Nat.le_of_ble_eq_true rfl), (Nat.le_of_ble_eq_true rfl)⟩ ⟨Nat.zero_le _, Nat.zero_le _⟩ dX0_countQueue_15 (fun hex => ?_)
      refine cutG (fun ls H locs st => ∃ x2 : Int32, x2 = (if (f_X0_isQueued T C σ (nI i_4) c9) = 0 then a2_4 else (a2_4 + 1)) ∧ st = [] ∧ lv_has ls 4 [(3, .int (nI i_4)), (2, .int x2), (0, .ref (q 0)), (1, .int c9)] ∧ H = s.heap ∧ locs = []) 24 (fun ls H locs st hKp => ?_) (fun K18 => ?_)
      · obtain ⟨_, rfl, rfl, hl, rfl, rfl⟩ := hKp
        refine lv_iinc (v := (nI (i_4 + 1))) (lv' := [(3, .int (nI (i_4 + 1))), (2, .int (if (f_X0_isQueued T C σ (nI i_4) c9) = 0 then a2_4 else (a2_4 + 1))), (0, .ref (q 0)), (1, .int c9)]) hx hb dX0_countQueue_24 hl (k := 0) rfl (nI_1 _) (by decide) rfl (fun ls hl => ?_)
        refine lv_goto (tgt := 4) hx hb dX0_countQueue_27 (by decide) ?_
        exact ih_4 (i_4 + 1) (if (f_X0_isQueued T C σ (nI i_4) c9) = 0 then a2_4 else (a2_4 + 1)) ls (by omega) hres (lv_sub (l' := [(3, .int (nI (i_4 + 1))), (2, .int (if (f_X0_isQueued T C σ (nI i_4) c9) = 0 then a2_4 else (a2_4 + 1))), (0, .ref (q 0)), (1, .int c9)]) hl [0, 1, 2, 3] rfl)
      · refine lv_if_eq (tgt := 24) hx hb dX0_countQueue_18 (by decide) (fun h18 => ?_) (fun h18 => ?_)
        · skip
          exact K18 _ _ _ _ ⟨a2_4, (Eq.symm (if_pos h18)), rfl, lv_sub hl [0, 1, 2, 3] rfl, rfl, rfl⟩
        · skip
          refine lv_iinc (v := (a2_4 + 1)) (lv' := [(2, .int (a2_4 + 1)), (3, .int (nI i_4)), (0, .ref (q 0)), (1, .int c9)]) hx hb dX0_countQueue_21 hl (k := 1) rfl rfl (by decide) rfl (fun ls hl => ?_)
          exact K18 _ _ _ _ ⟨(a2_4 + 1), (Eq.symm (if_neg h18)), rfl, lv_sub hl [1, 0, 2, 3] rfl, rfl, rfl⟩
  exact L_4 T 0 0 ls (Nat.zero_add T) rfl (lv_sub hl [0, 1, 2, 3] rfl)
def F_X0_findOwn_5 (T : Nat) (C : Nat) (σ : St) (c9 : Int32) (k9 : Int32) : Nat → Int32 → Int32 := fun i_5 z => (if (f_X0_isQueued T C σ (nI i_5) c9) = 0 then z else (if (σ.1 2 (ix (nI i_5))) = k9 then (if (f_X0_comesBefore T C σ (nI i_5) z) = 0 then z else (nI i_5)) else z))
def f_X0_findOwn (T C : Nat) (σ : St) (c9 : Int32) (k9 : Int32) : Int32 := (lp (F_X0_findOwn_5 T C σ c9 k9) T 0 (-1))
def rm_X0_findOwn : Room := { frames := 2, cells := 0, slots := 0, locals := 47 }
set_option maxHeartbeats 4000000 in
set_option maxRecDepth 100000 in
theorem k_X0_findOwn (l : Launch) (E : Ev) (q : Nat → Nat) (hq : Dq q) {T C : Nat} (hT : T ≤ 16) (hC : 1 ≤ C ∧ C ≤ 4) (σ : St) (hI : Inv T C σ) (c9 : Int32) (k9 : Int32) : RI l 0 E q σ yX0_findOwn cX0_findOwn 5 (some .int) rm_X0_findOwn [.int c9, .int k9] (f_X0_findOwn T C σ c9 k9) (vo (f_X0_findOwn T C σ c9 k9) ∧ True) := by
  refine Met.ofB (by decide) (Nat.le_of_ble_eq_true rfl) (fun p e s m args below meth c ls Q B hQ hPK hl => ?_)
  obtain ⟨hx, hb, hml, hr, hlocks, hown, hts⟩ := B
  have S0 : Fx p m c cX0_findOwn 5 s args RX0 := ⟨hx, hb, hml, hown, hts⟩
  obtain ⟨hP, hK⟩ := hPK
  have hl : lv_has ls 5 [(0, .ref (q 0)), (1, .int c9), (2, .int k9)] := hl
  refine lv_iconst (v := -1) hx hb dX0_findOwn_0 (by decide) ?_
  refine lv_istore_n (lv' := [(3, .int (-1)), (0, .ref (q 0)), (1, .int c9), (2, .int k9)]) hx hb dX0_findOwn_1 rfl hl (by decide) rfl (fun ls hl => ?_)
  refine lv_iconst (v := 0) hx hb dX0_findOwn_2 (by decide) ?_
  refine lv_istore (lv' := [(4, .int 0), (3, .int (-1)), (0, .ref (q 0)), (1, .int c9), (2, .int k9)]) hx hb dX0_findOwn_3 hl (by decide) rfl (fun ls hl => ?_)
  have L_5 : ∀ (n_5 i_5 : Nat) (a3_5 : Int32) (ls : Array Slot), i_5 + n_5 = T → lp (F_X0_findOwn_5 T C σ c9 k9) n_5 i_5 a3_5 = (lp (F_X0_findOwn_5 T C σ c9 k9) T 0 (-1)) → vo a3_5 → lv_has ls 5 [(4, .int (nI i_5)), (3, .int a3_5), (0, .ref (q 0)), (1, .int c9), (2, .int k9)] → W p l e rm_X0_findOwn s m args below meth c s.heap [] 0 0 Q (F0 m 5 ls []) := by
    intro n_5
    induction n_5 with
    | zero =>
      intro i_5 a3_5 ls hi_5 hres hvo_a3_5 hl
      have hres : a3_5 = (lp (F_X0_findOwn_5 T C σ c9 k9) T 0 (-1)) := hres
      subst hres
      refine lv_iload hx hb dX0_findOwn_5 (lv_at hl 0 rfl) ?_
      refine lv_aload_n hx hb dX0_findOwn_7 rfl (lv_at hl 2 rfl) ?_
      refine gf_X0_85 hx hb hts hown hK hP dX0_findOwn_8 ?_
      refine lv_icmp_ge (tgt := 54) hx hb dX0_findOwn_11 (by decide) (fun _ => ?_) (fun h => absurd (lp_out hI.2.1 (by omega) hi_5) h)
      have hl := lv_sub (l' := [(3, .int (lp (F_X0_findOwn_5 T C σ c9 k9) T 0 (-1))), (0, .ref (q 0)), (1, .int c9), (2, .int k9)]) hl [1, 2, 3, 4] rfl
      refine lv_iload_n hx hb dX0_findOwn_54 rfl (lv_at hl 0 rfl) ?_
      exact rt_RI hQ hx hb hr hlocks ⟨rfl, ⟨Eq.subst (motive := fun z => vo z) (show (lp (F_X0_findOwn_5 T C σ c9 k9) T 0 (-1)) = (f_X0_findOwn T C σ c9 k9) from rfl) (show vo (lp (F_X0_findOwn_5 T C σ c9 k9) T 0 (-1)) from hvo_a3_5), trivial⟩⟩ dX0_findOwn_55
    | succ n_5 ih_5 =>
      intro i_5 a3_5 ls hi_5 hres hvo_a3_5 hl
      refine lv_iload hx hb dX0_findOwn_5 (lv_at hl 0 rfl) ?_
      refine lv_aload_n hx hb dX0_findOwn_7 rfl (lv_at hl 2 rfl) ?_
      refine gf_X0_85 hx hb hts hown hK hP dX0_findOwn_8 ?_
      refine lv_icmp_ge (tgt := 54) hx hb dX0_findOwn_11 (by decide) (fun h => absurd h (lp_in hI.2.1 (by omega) hi_5)) (fun _ => ?_)
      refine lv_aload_n hx hb dX0_findOwn_14 rfl (lv_at hl 2 rfl) ?_
      refine lv_iload hx hb dX0_findOwn_15 (lv_at hl 0 rfl) ?_
      refine lv_iload_n hx hb dX0_findOwn_17 rfl (lv_at hl 3 rfl) ?_
      refine cl_RI (k_X0_isQueued l E q hq hT hC σ hI (nI i_5) c9 (vp_in_nI (by omega) (by decide))) gw_X0_130 hd_X0_isQueued ⟨rfl, rfl⟩ S0 hK hP (rest := []) rfl hl.1 (Nat.le_of_ble_eq_true rfl) ⟨(Nat.le_of_ble_eq_true rfl), (Nat.le_of_ble_eq_true rfl)⟩ ⟨Nat.zero_le _, Nat.zero_le _⟩ dX0_findOwn_18 (fun hex => ?_)
      refine cutG (fun ls H locs st => ∃ x3 : Int32, x3 = (if (f_X0_isQueued T C σ (nI i_5) c9) = 0 then a3_5 else (if (σ.1 2 (ix (nI i_5))) = k9 then (if (f_X0_comesBefore T C σ (nI i_5) a3_5) = 0 then a3_5 else (nI i_5)) else a3_5)) ∧ st = [] ∧ lv_has ls 5 [(4, .int (nI i_5)), (3, .int x3), (0, .ref (q 0)), (1, .int c9), (2, .int k9)] ∧ H = s.heap ∧ locs = []) 48 (fun ls H locs st hKp => ?_) (fun K21 => ?_)
      · obtain ⟨_, rfl, rfl, hl, rfl, rfl⟩ := hKp
        refine lv_iinc (v := (nI (i_5 + 1))) (lv' := [(4, .int (nI (i_5 + 1))), (3, .int (if (f_X0_isQueued T C σ (nI i_5) c9) = 0 then a3_5 else (if (σ.1 2 (ix (nI i_5))) = k9 then (if (f_X0_comesBefore T C σ (nI i_5) a3_5) = 0 then a3_5 else (nI i_5)) else a3_5))), (0, .ref (q 0)), (1, .int c9), (2, .int k9)]) hx hb dX0_findOwn_48 hl (k := 0) rfl (nI_1 _) (by decide) rfl (fun ls hl => ?_)
        refine lv_goto (tgt := 5) hx hb dX0_findOwn_51 (by decide) ?_
        exact ih_5 (i_5 + 1) (if (f_X0_isQueued T C σ (nI i_5) c9) = 0 then a3_5 else (if (σ.1 2 (ix (nI i_5))) = k9 then (if (f_X0_comesBefore T C σ (nI i_5) a3_5) = 0 then a3_5 else (nI i_5)) else a3_5)) ls (by omega) hres (Eq.subst (motive := fun z => vo z) (show (if (f_X0_isQueued T C σ (nI i_5) c9) = 0 then a3_5 else (if (σ.1 2 (ix (nI i_5))) = k9 then (if (f_X0_comesBefore T C σ (nI i_5) a3_5) = 0 then a3_5 else (nI i_5)) else a3_5)) = (if (f_X0_isQueued T C σ (nI i_5) c9) = 0 then a3_5 else (if (σ.1 2 (ix (nI i_5))) = k9 then (if (f_X0_comesBefore T C σ (nI i_5) a3_5) = 0 then a3_5 else (nI i_5)) else a3_5)) from rfl) (show vo (if (f_X0_isQueued T C σ (nI i_5) c9) = 0 then a3_5 else (if (σ.1 2 (ix (nI i_5))) = k9 then (if (f_X0_comesBefore T C σ (nI i_5) a3_5) = 0 then a3_5 else (nI i_5)) else a3_5)) from (vo.ite hvo_a3_5 (vo.ite (vo.ite hvo_a3_5 (vo_nI (by omega))) hvo_a3_5)))) (lv_sub (l' := [(4, .int (nI (i_5 + 1))), (3, .int (if (f_X0_isQueued T C σ (nI i_5) c9) = 0 then a3_5 else (if (σ.1 2 (ix (nI i_5))) = k9 then (if (f_X0_comesBefore T C σ (nI i_5) a3_5) = 0 then a3_5 else (nI i_5)) else a3_5))), (0, .ref (q 0)), (1, .int c9), (2, .int k9)]) hl [0, 1, 2, 3, 4] rfl)
      · refine lv_if_eq (tgt := 48) hx hb dX0_findOwn_21 (by decide) (fun h21 => ?_) (fun h21 => ?_)
        · skip
          exact K21 _ _ _ _ ⟨a3_5, (Eq.symm (if_pos h21)), rfl, lv_sub hl [0, 1, 2, 3, 4] rfl, rfl, rfl⟩
        · skip
          refine lv_aload_n hx hb dX0_findOwn_24 rfl (lv_at hl 2 rfl) ?_
          refine gf_X0_16 hx hb hts hown hK hP dX0_findOwn_25 ?_
          refine lv_iload hx hb dX0_findOwn_28 (lv_at hl 0 rfl) ?_
          refine ld_2 hx hb hK hP (vp_in_nI (by omega) (by decide)) dX0_findOwn_30 ?_
          refine lv_iload_n hx hb dX0_findOwn_31 rfl (lv_at hl 4 rfl) ?_
          refine lv_icmp_ne (tgt := 48) hx hb dX0_findOwn_32 (by decide) (fun h32 => ?_) (fun h32 => ?_)
          · skip
            exact K21 _ _ _ _ ⟨a3_5, (Eq.symm (Eq.trans (if_neg h21) (if_neg h32))), rfl, lv_sub hl [0, 1, 2, 3, 4] rfl, rfl, rfl⟩
          · skip
            refine lv_aload_n hx hb dX0_findOwn_35 rfl (lv_at hl 2 rfl) ?_
            refine lv_iload hx hb dX0_findOwn_36 (lv_at hl 0 rfl) ?_
            refine lv_iload_n hx hb dX0_findOwn_38 rfl (lv_at hl 1 rfl) ?_
            refine cl_RI (k_X0_comesBefore l E q hq hT hC σ hI (nI i_5) a3_5 (vp_in_nI (by omega) (by decide)) hvo_a3_5) gw_X0_167 hd_X0_comesBefore ⟨rfl, rfl⟩ S0 hK hP (rest := []) rfl hl.1 (Nat.le_of_ble_eq_true rfl) ⟨(Nat.le_of_ble_eq_true rfl), (Nat.le_of_ble_eq_true rfl)⟩ ⟨Nat.zero_le _, Nat.zero_le _⟩ dX0_findOwn_39 (fun hex => ?_)
            refine lv_if_eq (tgt := 48) hx hb dX0_findOwn_42 (by decide) (fun h42 => ?_) (fun h42 => ?_)
            · skip
              exact K21 _ _ _ _ ⟨a3_5, (Eq.symm (Eq.trans (Eq.trans (if_neg h21) (if_pos h32)) (if_pos h42))), rfl, lv_sub hl [0, 1, 2, 3, 4] rfl, rfl, rfl⟩
            · skip
              refine lv_iload hx hb dX0_findOwn_45 (lv_at hl 0 rfl) ?_
              refine lv_istore_n (lv' := [(3, .int (nI i_5)), (4, .int (nI i_5)), (0, .ref (q 0)), (1, .int c9), (2, .int k9)]) hx hb dX0_findOwn_47 rfl hl (by decide) rfl (fun ls hl => ?_)
              exact K21 _ _ _ _ ⟨(nI i_5), (Eq.symm (Eq.trans (Eq.trans (if_neg h21) (if_pos h32)) (if_neg h42))), rfl, lv_sub hl [1, 0, 2, 3, 4] rfl, rfl, rfl⟩
  exact L_5 T 0 (-1) ls (Nat.zero_add T) rfl vo_1 (lv_sub hl [0, 1, 2, 3, 4] rfl)
def f_X0_isLoot (T C : Nat) (σ : St) (t : Int32) (r9 : Int32) (k9 : Int32) : Int32 := (if (σ.1 3 (ix t)) = 0 then (if (σ.1 2 (ix t)) = k9 then (if (f_X0_isOnCore T C σ t r9) = 0 then 1 else 0) else 0) else 0)
def rm_X0_isLoot : Room := { frames := 2, cells := 0, slots := 0, locals := 42 }
set_option maxHeartbeats 4000000 in
set_option maxRecDepth 100000 in
theorem k_X0_isLoot (l : Launch) (E : Ev) (q : Nat → Nat) (hq : Dq q) {T C : Nat} (hT : T ≤ 16) (hC : 1 ≤ C ∧ C ≤ 4) (σ : St) (hI : Inv T C σ) (t : Int32) (r9 : Int32) (k9 : Int32) (hp0 : vp_in t 16) : RI l 0 E q σ yX0_isLoot cX0_isLoot 4 (some .boolean) rm_X0_isLoot [.int t, .int r9, .int k9] (f_X0_isLoot T C σ t r9 k9) True := by
  refine Met.ofB (by decide) (Nat.le_of_ble_eq_true rfl) (fun p e s m args below meth c ls Q B hQ hPK hl => ?_)
  obtain ⟨hx, hb, hml, hr, hlocks, hown, hts⟩ := B
  have S0 : Fx p m c cX0_isLoot 4 s args RX0 := ⟨hx, hb, hml, hown, hts⟩
  obtain ⟨hP, hK⟩ := hPK
  have hl : lv_has ls 4 [(0, .ref (q 0)), (1, .int t), (2, .int r9), (3, .int k9)] := hl
  refine lv_aload_n hx hb dX0_isLoot_0 rfl (lv_at hl 0 rfl) ?_
  refine gf_X0_19 hx hb hts hown hK hP dX0_isLoot_1 ?_
  refine lv_iload_n hx hb dX0_isLoot_4 rfl (lv_at hl 1 rfl) ?_
  refine ld_3 hx hb hK hP hp0 dX0_isLoot_5 ?_
  refine cutG (fun ls H locs st => ∃ y0 : Int32, y0 = (if (σ.1 3 (ix t)) = 0 then (if (σ.1 2 (ix t)) = k9 then (if (f_X0_isOnCore T C σ t r9) = 0 then 1 else 0) else 0) else 0) ∧ st = [.int y0] ∧ lv_has ls 4 [(0, .ref (q 0)), (1, .int t), (2, .int r9), (3, .int k9)] ∧ H = s.heap ∧ locs = []) 33 (fun ls H locs st hKp => ?_) (fun K6 => ?_)
  · obtain ⟨_, rfl, rfl, hl, rfl, rfl⟩ := hKp
    exact rt_RZ hQ hx hb hr hlocks (nb_ite (nb_ite (nb_ite nb_1 nb_0) nb_0) nb_0) ⟨rfl, trivial⟩ dX0_isLoot_33
  · refine lv_if_ne (tgt := 32) hx hb dX0_isLoot_6 (by decide) (fun h6 => ?_) (fun h6 => ?_)
    · skip
      refine lv_iconst (v := 0) hx hb dX0_isLoot_32 (by decide) ?_
      exact K6 _ _ _ _ ⟨0, (Eq.symm (if_neg h6)), rfl, lv_sub hl [0, 1, 2, 3] rfl, rfl, rfl⟩
    · skip
      refine lv_aload_n hx hb dX0_isLoot_9 rfl (lv_at hl 0 rfl) ?_
      refine gf_X0_16 hx hb hts hown hK hP dX0_isLoot_10 ?_
      refine lv_iload_n hx hb dX0_isLoot_13 rfl (lv_at hl 1 rfl) ?_
      refine ld_2 hx hb hK hP hp0 dX0_isLoot_14 ?_
      refine lv_iload_n hx hb dX0_isLoot_15 rfl (lv_at hl 3 rfl) ?_
      refine lv_icmp_ne (tgt := 32) hx hb dX0_isLoot_16 (by decide) (fun h16 => ?_) (fun h16 => ?_)
      · skip
        refine lv_iconst (v := 0) hx hb dX0_isLoot_32 (by decide) ?_
        exact K6 _ _ _ _ ⟨0, (Eq.symm (Eq.trans (if_pos h6) (if_neg h16))), rfl, lv_sub hl [0, 1, 2, 3] rfl, rfl, rfl⟩
      · skip
        refine lv_aload_n hx hb dX0_isLoot_19 rfl (lv_at hl 0 rfl) ?_
        refine lv_iload_n hx hb dX0_isLoot_20 rfl (lv_at hl 1 rfl) ?_
        refine lv_iload_n hx hb dX0_isLoot_21 rfl (lv_at hl 2 rfl) ?_
        refine cl_RI (k_X0_isOnCore l E q hq hT hC σ hI t r9 hp0) gw_X0_185 hd_X0_isOnCore ⟨rfl, rfl⟩ S0 hK hP (rest := []) rfl hl.1 (Nat.le_of_ble_eq_true rfl) ⟨(Nat.le_of_ble_eq_true rfl), (Nat.le_of_ble_eq_true rfl)⟩ ⟨Nat.zero_le _, Nat.zero_le _⟩ dX0_isLoot_22 (fun hex => ?_)
        refine lv_if_ne (tgt := 32) hx hb dX0_isLoot_25 (by decide) (fun h25 => ?_) (fun h25 => ?_)
        · skip
          refine lv_iconst (v := 0) hx hb dX0_isLoot_32 (by decide) ?_
          exact K6 _ _ _ _ ⟨0, (Eq.symm (Eq.trans (Eq.trans (if_pos h6) (if_pos h16)) (if_neg h25))), rfl, lv_sub hl [0, 1, 2, 3] rfl, rfl, rfl⟩
        · skip
          refine lv_iconst (v := 1) hx hb dX0_isLoot_28 (by decide) ?_
          refine lv_goto (tgt := 33) hx hb dX0_isLoot_29 (by decide) ?_
          exact K6 _ _ _ _ ⟨1, (Eq.symm (Eq.trans (Eq.trans (if_pos h6) (if_pos h16)) (if_pos h25))), rfl, lv_sub hl [0, 1, 2, 3] rfl, rfl, rfl⟩
def F_X0_findLoot_5 (T : Nat) (C : Nat) (σ : St) (r9 : Int32) (k9 : Int32) : Nat → Int32 → Int32 := fun i_5 z => (if (f_X0_isLoot T C σ (nI i_5) r9 k9) = 0 then z else (if (f_X0_comesBefore T C σ (nI i_5) z) = 0 then z else (nI i_5)))
def f_X0_findLoot (T C : Nat) (σ : St) (r9 : Int32) (k9 : Int32) : Int32 := (lp (F_X0_findLoot_5 T C σ r9 k9) T 0 (-1))
def rm_X0_findLoot : Room := { frames := 3, cells := 0, slots := 0, locals := 65 }
set_option maxHeartbeats 4000000 in
set_option maxRecDepth 100000 in
theorem k_X0_findLoot (l : Launch) (E : Ev) (q : Nat → Nat) (hq : Dq q) {T C : Nat} (hT : T ≤ 16) (hC : 1 ≤ C ∧ C ≤ 4) (σ : St) (hI : Inv T C σ) (r9 : Int32) (k9 : Int32) : RI l 0 E q σ yX0_findLoot cX0_findLoot 5 (some .int) rm_X0_findLoot [.int r9, .int k9] (f_X0_findLoot T C σ r9 k9) (vo (f_X0_findLoot T C σ r9 k9) ∧ True) := by
  refine Met.ofB (by decide) (Nat.le_of_ble_eq_true rfl) (fun p e s m args below meth c ls Q B hQ hPK hl => ?_)
  obtain ⟨hx, hb, hml, hr, hlocks, hown, hts⟩ := B
  have S0 : Fx p m c cX0_findLoot 5 s args RX0 := ⟨hx, hb, hml, hown, hts⟩
  obtain ⟨hP, hK⟩ := hPK
  have hl : lv_has ls 5 [(0, .ref (q 0)), (1, .int r9), (2, .int k9)] := hl
  refine lv_iconst (v := -1) hx hb dX0_findLoot_0 (by decide) ?_
  refine lv_istore_n (lv' := [(3, .int (-1)), (0, .ref (q 0)), (1, .int r9), (2, .int k9)]) hx hb dX0_findLoot_1 rfl hl (by decide) rfl (fun ls hl => ?_)
  refine lv_iconst (v := 0) hx hb dX0_findLoot_2 (by decide) ?_
  refine lv_istore (lv' := [(4, .int 0), (3, .int (-1)), (0, .ref (q 0)), (1, .int r9), (2, .int k9)]) hx hb dX0_findLoot_3 hl (by decide) rfl (fun ls hl => ?_)
  have L_5 : ∀ (n_5 i_5 : Nat) (a3_5 : Int32) (ls : Array Slot), i_5 + n_5 = T → lp (F_X0_findLoot_5 T C σ r9 k9) n_5 i_5 a3_5 = (lp (F_X0_findLoot_5 T C σ r9 k9) T 0 (-1)) → vo a3_5 → lv_has ls 5 [(4, .int (nI i_5)), (3, .int a3_5), (0, .ref (q 0)), (1, .int r9), (2, .int k9)] → W p l e rm_X0_findLoot s m args below meth c s.heap [] 0 0 Q (F0 m 5 ls []) := by
    intro n_5
    induction n_5 with
    | zero =>
      intro i_5 a3_5 ls hi_5 hres hvo_a3_5 hl
      have hres : a3_5 = (lp (F_X0_findLoot_5 T C σ r9 k9) T 0 (-1)) := hres
      subst hres
      refine lv_iload hx hb dX0_findLoot_5 (lv_at hl 0 rfl) ?_
      refine lv_aload_n hx hb dX0_findLoot_7 rfl (lv_at hl 2 rfl) ?_
      refine gf_X0_85 hx hb hts hown hK hP dX0_findLoot_8 ?_
      refine lv_icmp_ge (tgt := 44) hx hb dX0_findLoot_11 (by decide) (fun _ => ?_) (fun h => absurd (lp_out hI.2.1 (by omega) hi_5) h)
      have hl := lv_sub (l' := [(3, .int (lp (F_X0_findLoot_5 T C σ r9 k9) T 0 (-1))), (0, .ref (q 0)), (1, .int r9), (2, .int k9)]) hl [1, 2, 3, 4] rfl
      refine lv_iload_n hx hb dX0_findLoot_44 rfl (lv_at hl 0 rfl) ?_
      exact rt_RI hQ hx hb hr hlocks ⟨rfl, ⟨Eq.subst (motive := fun z => vo z) (show (lp (F_X0_findLoot_5 T C σ r9 k9) T 0 (-1)) = (f_X0_findLoot T C σ r9 k9) from rfl) (show vo (lp (F_X0_findLoot_5 T C σ r9 k9) T 0 (-1)) from hvo_a3_5), trivial⟩⟩ dX0_findLoot_45
    | succ n_5 ih_5 =>
      intro i_5 a3_5 ls hi_5 hres hvo_a3_5 hl
      refine lv_iload hx hb dX0_findLoot_5 (lv_at hl 0 rfl) ?_
      refine lv_aload_n hx hb dX0_findLoot_7 rfl (lv_at hl 2 rfl) ?_
      refine gf_X0_85 hx hb hts hown hK hP dX0_findLoot_8 ?_
      refine lv_icmp_ge (tgt := 44) hx hb dX0_findLoot_11 (by decide) (fun h => absurd h (lp_in hI.2.1 (by omega) hi_5)) (fun _ => ?_)
      refine lv_aload_n hx hb dX0_findLoot_14 rfl (lv_at hl 2 rfl) ?_
      refine lv_iload hx hb dX0_findLoot_15 (lv_at hl 0 rfl) ?_
      refine lv_iload_n hx hb dX0_findLoot_17 rfl (lv_at hl 3 rfl) ?_
      refine lv_iload_n hx hb dX0_findLoot_18 rfl (lv_at hl 4 rfl) ?_
      refine cl_RI (k_X0_isLoot l E q hq hT hC σ hI (nI i_5) r9 k9 (vp_in_nI (by omega) (by decide))) gw_X0_194 hd_X0_isLoot ⟨rfl, rfl⟩ S0 hK hP (rest := []) rfl hl.1 (Nat.le_of_ble_eq_true rfl) ⟨(Nat.le_of_ble_eq_true rfl), (Nat.le_of_ble_eq_true rfl)⟩ ⟨Nat.zero_le _, Nat.zero_le _⟩ dX0_findLoot_19 (fun hex => ?_)
      refine cutG (fun ls H locs st => ∃ x3 : Int32, x3 = (if (f_X0_isLoot T C σ (nI i_5) r9 k9) = 0 then a3_5 else (if (f_X0_comesBefore T C σ (nI i_5) a3_5) = 0 then a3_5 else (nI i_5))) ∧ st = [] ∧ lv_has ls 5 [(4, .int (nI i_5)), (3, .int x3), (0, .ref (q 0)), (1, .int r9), (2, .int k9)] ∧ H = s.heap ∧ locs = []) 38 (fun ls H locs st hKp => ?_) (fun K22 => ?_)
      · obtain ⟨_, rfl, rfl, hl, rfl, rfl⟩ := hKp
        refine lv_iinc (v := (nI (i_5 + 1))) (lv' := [(4, .int (nI (i_5 + 1))), (3, .int (if (f_X0_isLoot T C σ (nI i_5) r9 k9) = 0 then a3_5 else (if (f_X0_comesBefore T C σ (nI i_5) a3_5) = 0 then a3_5 else (nI i_5)))), (0, .ref (q 0)), (1, .int r9), (2, .int k9)]) hx hb dX0_findLoot_38 hl (k := 0) rfl (nI_1 _) (by decide) rfl (fun ls hl => ?_)
        refine lv_goto (tgt := 5) hx hb dX0_findLoot_41 (by decide) ?_
        exact ih_5 (i_5 + 1) (if (f_X0_isLoot T C σ (nI i_5) r9 k9) = 0 then a3_5 else (if (f_X0_comesBefore T C σ (nI i_5) a3_5) = 0 then a3_5 else (nI i_5))) ls (by omega) hres (Eq.subst (motive := fun z => vo z) (show (if (f_X0_isLoot T C σ (nI i_5) r9 k9) = 0 then a3_5 else (if (f_X0_comesBefore T C σ (nI i_5) a3_5) = 0 then a3_5 else (nI i_5))) = (if (f_X0_isLoot T C σ (nI i_5) r9 k9) = 0 then a3_5 else (if (f_X0_comesBefore T C σ (nI i_5) a3_5) = 0 then a3_5 else (nI i_5))) from rfl) (show vo (if (f_X0_isLoot T C σ (nI i_5) r9 k9) = 0 then a3_5 else (if (f_X0_comesBefore T C σ (nI i_5) a3_5) = 0 then a3_5 else (nI i_5))) from (vo.ite hvo_a3_5 (vo.ite hvo_a3_5 (vo_nI (by omega)))))) (lv_sub (l' := [(4, .int (nI (i_5 + 1))), (3, .int (if (f_X0_isLoot T C σ (nI i_5) r9 k9) = 0 then a3_5 else (if (f_X0_comesBefore T C σ (nI i_5) a3_5) = 0 then a3_5 else (nI i_5)))), (0, .ref (q 0)), (1, .int r9), (2, .int k9)]) hl [0, 1, 2, 3, 4] rfl)
      · refine lv_if_eq (tgt := 38) hx hb dX0_findLoot_22 (by decide) (fun h22 => ?_) (fun h22 => ?_)
        · skip
          exact K22 _ _ _ _ ⟨a3_5, (Eq.symm (if_pos h22)), rfl, lv_sub hl [0, 1, 2, 3, 4] rfl, rfl, rfl⟩
        · skip
          refine lv_aload_n hx hb dX0_findLoot_25 rfl (lv_at hl 2 rfl) ?_
          refine lv_iload hx hb dX0_findLoot_26 (lv_at hl 0 rfl) ?_
          refine lv_iload_n hx hb dX0_findLoot_28 rfl (lv_at hl 1 rfl) ?_
          refine cl_RI (k_X0_comesBefore l E q hq hT hC σ hI (nI i_5) a3_5 (vp_in_nI (by omega) (by decide)) hvo_a3_5) gw_X0_167 hd_X0_comesBefore ⟨rfl, rfl⟩ S0 hK hP (rest := []) rfl hl.1 (Nat.le_of_ble_eq_true rfl) ⟨(Nat.le_of_ble_eq_true rfl), (Nat.le_of_ble_eq_true rfl)⟩ ⟨Nat.zero_le _, Nat.zero_le _⟩ dX0_findLoot_29 (fun hex => ?_)
          refine lv_if_eq (tgt := 38) hx hb dX0_findLoot_32 (by decide) (fun h32 => ?_) (fun h32 => ?_)
          · skip
            exact K22 _ _ _ _ ⟨a3_5, (Eq.symm (Eq.trans (if_neg h22) (if_pos h32))), rfl, lv_sub hl [0, 1, 2, 3, 4] rfl, rfl, rfl⟩
          · skip
            refine lv_iload hx hb dX0_findLoot_35 (lv_at hl 0 rfl) ?_
            refine lv_istore_n (lv' := [(3, .int (nI i_5)), (4, .int (nI i_5)), (0, .ref (q 0)), (1, .int r9), (2, .int k9)]) hx hb dX0_findLoot_37 rfl hl (by decide) rfl (fun ls hl => ?_)
            exact K22 _ _ _ _ ⟨(nI i_5), (Eq.symm (Eq.trans (if_neg h22) (if_neg h32))), rfl, lv_sub hl [1, 0, 2, 3, 4] rfl, rfl, rfl⟩
  exact L_5 T 0 (-1) ls (Nat.zero_add T) rfl vo_1 (lv_sub hl [0, 1, 2, 3, 4] rfl)
def F_X0_findLeastTime_4 (T : Nat) (C : Nat) (σ : St) (c9 : Int32) : Nat → Int32 → Int32 := fun i_4 z => (if (f_X0_isQueued T C σ (nI i_4) c9) = 0 then z else (if z = (-1) then (nI i_4) else (if 0 ≤ (lg_cmp (σ.2.1 4 (ix (nI i_4))) (σ.2.1 4 (ix z))) then z else (nI i_4))))
def f_X0_findLeastTime (T C : Nat) (σ : St) (c9 : Int32) : Int32 := (lp (F_X0_findLeastTime_4 T C σ c9) T 0 (-1))
def rm_X0_findLeastTime : Room := { frames := 2, cells := 0, slots := 0, locals := 43 }
set_option maxHeartbeats 4000000 in
set_option maxRecDepth 100000 in
theorem k_X0_findLeastTime (l : Launch) (E : Ev) (q : Nat → Nat) (hq : Dq q) {T C : Nat} (hT : T ≤ 16) (hC : 1 ≤ C ∧ C ≤ 4) (σ : St) (hI : Inv T C σ) (c9 : Int32) : RI l 0 E q σ yX0_findLeastTime cX0_findLeastTime 4 (some .int) rm_X0_findLeastTime [.int c9] (f_X0_findLeastTime T C σ c9) (vo (f_X0_findLeastTime T C σ c9) ∧ True) := by
  refine Met.ofB (by decide) (Nat.le_of_ble_eq_true rfl) (fun p e s m args below meth c ls Q B hQ hPK hl => ?_)
  obtain ⟨hx, hb, hml, hr, hlocks, hown, hts⟩ := B
  have S0 : Fx p m c cX0_findLeastTime 4 s args RX0 := ⟨hx, hb, hml, hown, hts⟩
  obtain ⟨hP, hK⟩ := hPK
  have hl : lv_has ls 4 [(0, .ref (q 0)), (1, .int c9)] := hl
  refine lv_iconst (v := -1) hx hb dX0_findLeastTime_0 (by decide) ?_
  refine lv_istore_n (lv' := [(2, .int (-1)), (0, .ref (q 0)), (1, .int c9)]) hx hb dX0_findLeastTime_1 rfl hl (by decide) rfl (fun ls hl => ?_)
  refine lv_iconst (v := 0) hx hb dX0_findLeastTime_2 (by decide) ?_
  refine lv_istore_n (lv' := [(3, .int 0), (2, .int (-1)), (0, .ref (q 0)), (1, .int c9)]) hx hb dX0_findLeastTime_3 rfl hl (by decide) rfl (fun ls hl => ?_)
  have L_4 : ∀ (n_4 i_4 : Nat) (a2_4 : Int32) (ls : Array Slot), i_4 + n_4 = T → lp (F_X0_findLeastTime_4 T C σ c9) n_4 i_4 a2_4 = (lp (F_X0_findLeastTime_4 T C σ c9) T 0 (-1)) → vo a2_4 → lv_has ls 4 [(3, .int (nI i_4)), (2, .int a2_4), (0, .ref (q 0)), (1, .int c9)] → W p l e rm_X0_findLeastTime s m args below meth c s.heap [] 0 0 Q (F0 m 4 ls []) := by
    intro n_4
    induction n_4 with
    | zero =>
      intro i_4 a2_4 ls hi_4 hres hvo_a2_4 hl
      have hres : a2_4 = (lp (F_X0_findLeastTime_4 T C σ c9) T 0 (-1)) := hres
      subst hres
      refine lv_iload_n hx hb dX0_findLeastTime_4 rfl (lv_at hl 0 rfl) ?_
      refine lv_aload_n hx hb dX0_findLeastTime_5 rfl (lv_at hl 2 rfl) ?_
      refine gf_X0_85 hx hb hts hown hK hP dX0_findLeastTime_6 ?_
      refine lv_icmp_ge (tgt := 50) hx hb dX0_findLeastTime_9 (by decide) (fun _ => ?_) (fun h => absurd (lp_out hI.2.1 (by omega) hi_4) h)
      have hl := lv_sub (l' := [(2, .int (lp (F_X0_findLeastTime_4 T C σ c9) T 0 (-1))), (0, .ref (q 0)), (1, .int c9)]) hl [1, 2, 3] rfl
      refine lv_iload_n hx hb dX0_findLeastTime_50 rfl (lv_at hl 0 rfl) ?_
      exact rt_RI hQ hx hb hr hlocks ⟨rfl, ⟨Eq.subst (motive := fun z => vo z) (show (lp (F_X0_findLeastTime_4 T C σ c9) T 0 (-1)) = (f_X0_findLeastTime T C σ c9) from rfl) (show vo (lp (F_X0_findLeastTime_4 T C σ c9) T 0 (-1)) from hvo_a2_4), trivial⟩⟩ dX0_findLeastTime_51
    | succ n_4 ih_4 =>
      intro i_4 a2_4 ls hi_4 hres hvo_a2_4 hl
      refine lv_iload_n hx hb dX0_findLeastTime_4 rfl (lv_at hl 0 rfl) ?_
      refine lv_aload_n hx hb dX0_findLeastTime_5 rfl (lv_at hl 2 rfl) ?_
      refine gf_X0_85 hx hb hts hown hK hP dX0_findLeastTime_6 ?_
      refine lv_icmp_ge (tgt := 50) hx hb dX0_findLeastTime_9 (by decide) (fun h => absurd h (lp_in hI.2.1 (by omega) hi_4)) (fun _ => ?_)
      refine lv_aload_n hx hb dX0_findLeastTime_12 rfl (lv_at hl 2 rfl) ?_
      refine lv_iload_n hx hb dX0_findLeastTime_13 rfl (lv_at hl 0 rfl) ?_
      refine lv_iload_n hx hb dX0_findLeastTime_14 rfl (lv_at hl 3 rfl) ?_
      refine cl_RI (k_X0_isQueued l E q hq hT hC σ hI (nI i_4) c9 (vp_in_nI (by omega) (by decide))) gw_X0_130 hd_X0_isQueued ⟨rfl, rfl⟩ S0 hK hP (rest := []) rfl hl.1 (Nat.le_of_ble_eq_true rfl) ⟨(Nat.le_of_ble_eq_true rfl), (Nat.le_of_ble_eq_true rfl)⟩ ⟨Nat.zero_le _, Nat.zero_le _⟩ dX0_findLeastTime_15 (fun hex => ?_)
      refine cutG (fun ls H locs st => ∃ x2 : Int32, x2 = (if (f_X0_isQueued T C σ (nI i_4) c9) = 0 then a2_4 else (if a2_4 = (-1) then (nI i_4) else (if 0 ≤ (lg_cmp (σ.2.1 4 (ix (nI i_4))) (σ.2.1 4 (ix a2_4))) then a2_4 else (nI i_4)))) ∧ st = [] ∧ lv_has ls 4 [(3, .int (nI i_4)), (2, .int x2), (0, .ref (q 0)), (1, .int c9)] ∧ H = s.heap ∧ locs = []) 44 (fun ls H locs st hKp => ?_) (fun K18 => ?_)
      · obtain ⟨_, rfl, rfl, hl, rfl, rfl⟩ := hKp
        refine lv_iinc (v := (nI (i_4 + 1))) (lv' := [(3, .int (nI (i_4 + 1))), (2, .int (if (f_X0_isQueued T C σ (nI i_4) c9) = 0 then a2_4 else (if a2_4 = (-1) then (nI i_4) else (if 0 ≤ (lg_cmp (σ.2.1 4 (ix (nI i_4))) (σ.2.1 4 (ix a2_4))) then a2_4 else (nI i_4))))), (0, .ref (q 0)), (1, .int c9)]) hx hb dX0_findLeastTime_44 hl (k := 0) rfl (nI_1 _) (by decide) rfl (fun ls hl => ?_)
        refine lv_goto (tgt := 4) hx hb dX0_findLeastTime_47 (by decide) ?_
        exact ih_4 (i_4 + 1) (if (f_X0_isQueued T C σ (nI i_4) c9) = 0 then a2_4 else (if a2_4 = (-1) then (nI i_4) else (if 0 ≤ (lg_cmp (σ.2.1 4 (ix (nI i_4))) (σ.2.1 4 (ix a2_4))) then a2_4 else (nI i_4)))) ls (by omega) hres (Eq.subst (motive := fun z => vo z) (show (if (f_X0_isQueued T C σ (nI i_4) c9) = 0 then a2_4 else (if a2_4 = (-1) then (nI i_4) else (if 0 ≤ (lg_cmp (σ.2.1 4 (ix (nI i_4))) (σ.2.1 4 (ix a2_4))) then a2_4 else (nI i_4)))) = (if (f_X0_isQueued T C σ (nI i_4) c9) = 0 then a2_4 else (if a2_4 = (-1) then (nI i_4) else (if 0 ≤ (lg_cmp (σ.2.1 4 (ix (nI i_4))) (σ.2.1 4 (ix a2_4))) then a2_4 else (nI i_4)))) from rfl) (show vo (if (f_X0_isQueued T C σ (nI i_4) c9) = 0 then a2_4 else (if a2_4 = (-1) then (nI i_4) else (if 0 ≤ (lg_cmp (σ.2.1 4 (ix (nI i_4))) (σ.2.1 4 (ix a2_4))) then a2_4 else (nI i_4)))) from (vo.ite hvo_a2_4 (vo.ite (vo_nI (by omega)) (vo.ite hvo_a2_4 (vo_nI (by omega))))))) (lv_sub (l' := [(3, .int (nI (i_4 + 1))), (2, .int (if (f_X0_isQueued T C σ (nI i_4) c9) = 0 then a2_4 else (if a2_4 = (-1) then (nI i_4) else (if 0 ≤ (lg_cmp (σ.2.1 4 (ix (nI i_4))) (σ.2.1 4 (ix a2_4))) then a2_4 else (nI i_4))))), (0, .ref (q 0)), (1, .int c9)]) hl [0, 1, 2, 3] rfl)
      · refine lv_if_eq (tgt := 44) hx hb dX0_findLeastTime_18 (by decide) (fun h18 => ?_) (fun h18 => ?_)
        · skip
          exact K18 _ _ _ _ ⟨a2_4, (Eq.symm (if_pos h18)), rfl, lv_sub hl [0, 1, 2, 3] rfl, rfl, rfl⟩
        · skip
          refine lv_iload_n hx hb dX0_findLeastTime_21 rfl (lv_at hl 1 rfl) ?_
          refine lv_iconst (v := -1) hx hb dX0_findLeastTime_22 (by decide) ?_
          refine lv_icmp_eq (tgt := 42) hx hb dX0_findLeastTime_23 (by decide) (fun h23 => ?_) (fun h23 => ?_)
          · skip
            refine lv_iload_n hx hb dX0_findLeastTime_42 rfl (lv_at hl 0 rfl) ?_
            refine lv_istore_n (lv' := [(2, .int (nI i_4)), (3, .int (nI i_4)), (0, .ref (q 0)), (1, .int c9)]) hx hb dX0_findLeastTime_43 rfl hl (by decide) rfl (fun ls hl => ?_)
            exact K18 _ _ _ _ ⟨(nI i_4), (Eq.symm (Eq.trans (if_neg h18) (if_pos h23))), rfl, lv_sub hl [1, 0, 2, 3] rfl, rfl, rfl⟩
          · skip
            refine lv_aload_n hx hb dX0_findLeastTime_26 rfl (lv_at hl 2 rfl) ?_
            refine gf_X0_22 hx hb hts hown hK hP dX0_findLeastTime_27 ?_
            refine lv_iload_n hx hb dX0_findLeastTime_30 rfl (lv_at hl 0 rfl) ?_
            refine ld_4 hx hb hK hP (vp_in_nI (by omega) (by decide)) dX0_findLeastTime_31 ?_
            refine lv_aload_n hx hb dX0_findLeastTime_32 rfl (lv_at hl 2 rfl) ?_
            refine gf_X0_22 hx hb hts hown hK hP dX0_findLeastTime_33 ?_
            refine lv_iload_n hx hb dX0_findLeastTime_36 rfl (lv_at hl 1 rfl) ?_
            refine ld_4 hx hb hK hP (vo.in hvo_a2_4 h23) dX0_findLeastTime_37 ?_
            refine W.lcmp hx hb dX0_findLeastTime_38 ?_
            refine lv_if_ge (tgt := 44) hx hb dX0_findLeastTime_39 (by decide) (fun h39 => ?_) (fun h39 => ?_)
            · skip
              exact K18 _ _ _ _ ⟨a2_4, (Eq.symm (Eq.trans (Eq.trans (if_neg h18) (if_neg h23)) (if_pos h39))), rfl, lv_sub hl [0, 1, 2, 3] rfl, rfl, rfl⟩
            · skip
              refine lv_iload_n hx hb dX0_findLeastTime_42 rfl (lv_at hl 0 rfl) ?_
              refine lv_istore_n (lv' := [(2, .int (nI i_4)), (3, .int (nI i_4)), (0, .ref (q 0)), (1, .int c9)]) hx hb dX0_findLeastTime_43 rfl hl (by decide) rfl (fun ls hl => ?_)
              exact K18 _ _ _ _ ⟨(nI i_4), (Eq.symm (Eq.trans (Eq.trans (if_neg h18) (if_neg h23)) (if_neg h39))), rfl, lv_sub hl [1, 0, 2, 3] rfl, rfl, rfl⟩
  exact L_4 T 0 (-1) ls (Nat.zero_add T) rfl vo_1 (lv_sub hl [0, 1, 2, 3] rfl)
def f_X0_costOfTick (w9 : Int32) : Int32 := (if 1 ≤ w9 then (5040 / w9) else 5040)
def rm_X0_costOfTick : Room := { frames := 0, cells := 0, slots := 0, locals := 0 }
set_option maxHeartbeats 4000000 in
set_option maxRecDepth 100000 in
theorem k_X0_costOfTick (l : Launch) (w9 : Int32) : NI l yX0_costOfTick cX0_costOfTick 1 (some .int) rm_X0_costOfTick [.int w9] (f_X0_costOfTick w9) := by
  refine Met.ofB (by decide) (Nat.le_of_ble_eq_true rfl) (fun p e s m args below meth c ls Q B hQ hPK hl => ?_)
  obtain ⟨hx, hb, hml, hr, hlocks, hown, hts⟩ := B
  have S0 : Fx p m c cX0_costOfTick 1 s args RX0 := ⟨hx, hb, hml, hown, hts⟩
  have hl : lv_has ls 1 [(0, .int w9)] := hl
  refine lv_iload_n hx hb dX0_costOfTick_0 rfl (lv_at hl 0 rfl) ?_
  refine lv_iconst (v := 1) hx hb dX0_costOfTick_1 (by decide) ?_
  refine cutG (fun ls H locs st => ∃ y0 : Int32, y0 = (if 1 ≤ w9 then (5040 / w9) else 5040) ∧ st = [.int y0] ∧ lv_has ls 1 [(0, .int w9)] ∧ H = s.heap ∧ locs = []) 16 (fun ls H locs st hKp => ?_) (fun K2 => ?_)
  · obtain ⟨_, rfl, rfl, hl, rfl, rfl⟩ := hKp
    exact rt_NI hQ hx hb hr hlocks rfl dX0_costOfTick_16
  · refine lv_icmp_ge (tgt := 11) hx hb dX0_costOfTick_2 (by decide) (fun h2 => ?_) (fun h2 => ?_)
    · skip
      refine lv_sipush (v := 5040) hx hb dX0_costOfTick_11 (by decide) ?_
      refine lv_iload_n hx hb dX0_costOfTick_14 rfl (lv_at hl 0 rfl) ?_
      refine lv_idiv hx hb dX0_costOfTick_15 (by first | exact divne (by assumption) | exact divle (by assumption)) ?_
      exact K2 _ _ _ _ ⟨(5040 / w9), (Eq.symm (if_pos h2)), rfl, lv_sub hl [0] rfl, rfl, rfl⟩
    · skip
      refine lv_sipush (v := 5040) hx hb dX0_costOfTick_5 (by decide) ?_
      refine lv_goto (tgt := 16) hx hb dX0_costOfTick_8 (by decide) ?_
      exact K2 _ _ _ _ ⟨5040, (Eq.symm (if_neg h2)), rfl, lv_sub hl [0] rfl, rfl, rfl⟩
def f_X0_taskCount (T C : Nat) (σ : St) : Int32 := (σ.2.2 14)
def rm_X0_taskCount : Room := { frames := 0, cells := 0, slots := 0, locals := 0 }
set_option maxHeartbeats 4000000 in
set_option maxRecDepth 100000 in
theorem k_X0_taskCount (l : Launch) (E : Ev) (q : Nat → Nat) (hq : Dq q) {T C : Nat} (hT : T ≤ 16) (hC : 1 ≤ C ∧ C ≤ 4) (σ : St) (hI : Inv T C σ) : RI l 0 E q σ yX0_taskCount cX0_taskCount 1 (some .int) rm_X0_taskCount [] (f_X0_taskCount T C σ) True := by
  refine Met.ofB (by decide) (Nat.le_of_ble_eq_true rfl) (fun p e s m args below meth c ls Q B hQ hPK hl => ?_)
  obtain ⟨hx, hb, hml, hr, hlocks, hown, hts⟩ := B
  have S0 : Fx p m c cX0_taskCount 1 s args RX0 := ⟨hx, hb, hml, hown, hts⟩
  obtain ⟨hP, hK⟩ := hPK
  have hl : lv_has ls 1 [(0, .ref (q 0))] := hl
  refine lv_aload_n hx hb dX0_taskCount_0 rfl (lv_at hl 0 rfl) ?_
  refine gf_X0_85 hx hb hts hown hK hP dX0_taskCount_1 ?_
  exact rt_RI hQ hx hb hr hlocks ⟨rfl, trivial⟩ dX0_taskCount_4
def f_X0_stolenTasks (T C : Nat) (σ : St) : Int32 := (σ.2.2 15)
def rm_X0_stolenTasks : Room := { frames := 0, cells := 0, slots := 0, locals := 0 }
set_option maxHeartbeats 4000000 in
set_option maxRecDepth 100000 in
theorem k_X0_stolenTasks (l : Launch) (E : Ev) (q : Nat → Nat) (hq : Dq q) {T C : Nat} (hT : T ≤ 16) (hC : 1 ≤ C ∧ C ≤ 4) (σ : St) (hI : Inv T C σ) : RI l 0 E q σ yX0_stolenTasks cX0_stolenTasks 1 (some .int) rm_X0_stolenTasks [] (f_X0_stolenTasks T C σ) True := by
  refine Met.ofB (by decide) (Nat.le_of_ble_eq_true rfl) (fun p e s m args below meth c ls Q B hQ hPK hl => ?_)
  obtain ⟨hx, hb, hml, hr, hlocks, hown, hts⟩ := B
  have S0 : Fx p m c cX0_stolenTasks 1 s args RX0 := ⟨hx, hb, hml, hown, hts⟩
  obtain ⟨hP, hK⟩ := hPK
  have hl : lv_has ls 1 [(0, .ref (q 0))] := hl
  refine lv_aload_n hx hb dX0_stolenTasks_0 rfl (lv_at hl 0 rfl) ?_
  refine gf_X0_142 hx hb hts hown hK hP dX0_stolenTasks_1 ?_
  exact rt_RI hQ hx hb hr hlocks ⟨rfl, trivial⟩ dX0_stolenTasks_4
def g_X0_enterQueue (T C : Nat) (σ : St) (t : Int32) : St := (sI (sJ σ 4 (ix t) (if (σ.2.1 7 (ix (σ.1 0 (ix t)))) < (σ.2.1 4 (ix t)) then (σ.2.1 4 (ix t)) else (σ.2.1 7 (ix (σ.1 0 (ix t)))))) 3 (ix t) 0)
def rm_X0_enterQueue : Room := { frames := 1, cells := 0, slots := 0, locals := 23 }
set_option maxHeartbeats 4000000 in
set_option maxRecDepth 100000 in
theorem k_X0_enterQueue (l : Launch) (E : Ev) (q : Nat → Nat) (hq : Dq q) {T C : Nat} (hT : T ≤ 16) (hC : 1 ≤ C ∧ C ≤ 4) (σ : St) (hI : Inv T C σ) (t : Int32) (hp0 : vp_in t 16) : WV l 0 E q σ yX0_enterQueue cX0_enterQueue 2 none rm_X0_enterQueue [.int t] (g_X0_enterQueue T C σ t) (Inv T C (g_X0_enterQueue T C σ t) ∧ True) := by
  refine Met.ofB (by decide) (Nat.le_of_ble_eq_true rfl) (fun p e s m args below meth c ls Q B hQ hPK hl => ?_)
  obtain ⟨hx, hb, hml, hr, hlocks, hown, hts⟩ := B
  have S0 : Fx p m c cX0_enterQueue 2 s args RX0 := ⟨hx, hb, hml, hown, hts⟩
  obtain ⟨hP, hK⟩ := hPK
  suffices KH : ∀ (H : Heap) (locs : List Loc), PP 0 E q σ H → va_S (Aq q) s.heap H locs → W p l e rm_X0_enterQueue s m args below meth c H locs 0 0 Q (F0 m 0 ls []) from KH s.heap [] hP va_S.rf
  intro H locs hP hS
  have hl : lv_has ls 2 [(0, .ref (q 0)), (1, .int t)] := hl
  refine lv_aload_n hx hb dX0_enterQueue_0 rfl (lv_at hl 0 rfl) ?_
  refine gf_X0_22 hx hb hts hown hK hP dX0_enterQueue_1 ?_
  refine lv_iload_n hx hb dX0_enterQueue_4 rfl (lv_at hl 1 rfl) ?_
  refine lv_aload_n hx hb dX0_enterQueue_5 rfl (lv_at hl 0 rfl) ?_
  refine gf_X0_22 hx hb hts hown hK hP dX0_enterQueue_6 ?_
  refine lv_iload_n hx hb dX0_enterQueue_9 rfl (lv_at hl 1 rfl) ?_
  refine ld_4 hx hb hK hP hp0 dX0_enterQueue_10 ?_
  refine lv_aload_n hx hb dX0_enterQueue_11 rfl (lv_at hl 0 rfl) ?_
  refine gf_X0_32 hx hb hts hown hK hP dX0_enterQueue_12 ?_
  refine lv_aload_n hx hb dX0_enterQueue_15 rfl (lv_at hl 0 rfl) ?_
  refine gf_X0_9 hx hb hts hown hK hP dX0_enterQueue_16 ?_
  refine lv_iload_n hx hb dX0_enterQueue_19 rfl (lv_at hl 1 rfl) ?_
  refine ld_0 hx hb hK hP hp0 dX0_enterQueue_20 ?_
  refine ld_7 hx hb hK hP (hI.1 _) dX0_enterQueue_21 ?_
  refine mmx hx hb (hml.trans hl.1.symm) hown hts (Nat.le_of_ble_eq_true rfl) (Nat.le_of_ble_eq_true rfl) ⟨Nat.zero_le _, Nat.zero_le _⟩ dX0_enterQueue_22 ?_
  refine st_4 hx hb hK hq hP hS hp0 dX0_enterQueue_25 (fun H locs hP hS => ?_)
  have hI : Inv T C (sJ σ 4 (ix t) (if (σ.2.1 7 (ix (σ.1 0 (ix t)))) < (σ.2.1 4 (ix t)) then (σ.2.1 4 (ix t)) else (σ.2.1 7 (ix (σ.1 0 (ix t)))))) := inv_sJ hI
  refine lv_aload_n hx hb dX0_enterQueue_26 rfl (lv_at hl 0 rfl) ?_
  refine gf_X0_19 hx hb hts hown hK hP dX0_enterQueue_27 ?_
  refine lv_iload_n hx hb dX0_enterQueue_30 rfl (lv_at hl 1 rfl) ?_
  refine lv_iconst (v := 0) hx hb dX0_enterQueue_31 (by decide) ?_
  refine st_3 hx hb hK hq hP hS hp0 dX0_enterQueue_32 (fun H locs hP hS => ?_)
  have hI : Inv T C (sI (sJ σ 4 (ix t) (if (σ.2.1 7 (ix (σ.1 0 (ix t)))) < (σ.2.1 4 (ix t)) then (σ.2.1 4 (ix t)) else (σ.2.1 7 (ix (σ.1 0 (ix t)))))) 3 (ix t) 0) := inv_sI (by decide) hI
  exact rt_WV hQ hx hb hr hlocks (Eq.subst (motive := fun z => PP 0 E q z H) (show (sI (sJ σ 4 (ix t) (if (σ.2.1 7 (ix (σ.1 0 (ix t)))) < (σ.2.1 4 (ix t)) then (σ.2.1 4 (ix t)) else (σ.2.1 7 (ix (σ.1 0 (ix t)))))) 3 (ix t) 0) = (g_X0_enterQueue T C σ t) from rfl) hP) hS ⟨Eq.subst (motive := fun z => Inv T C z) (show (sI (sJ σ 4 (ix t) (if (σ.2.1 7 (ix (σ.1 0 (ix t)))) < (σ.2.1 4 (ix t)) then (σ.2.1 4 (ix t)) else (σ.2.1 7 (ix (σ.1 0 (ix t)))))) 3 (ix t) 0) = (g_X0_enterQueue T C σ t) from rfl) hI, trivial⟩ dX0_enterQueue_33
def f_X0_stopTask (T C : Nat) (σ : St) (t : Int32) (z9 : Int32) : Int32 := (σ.1 3 (ix t))
def g_X0_stopTask (T C : Nat) (σ : St) (t : Int32) (z9 : Int32) : St := (sI (if (σ.1 3 (ix t)) = 1 then (sI σ 8 (ix (σ.1 0 (ix t))) (-1)) else σ) 3 (ix t) z9)
def rm_X0_stopTask : Room := { frames := 0, cells := 0, slots := 0, locals := 0 }
set_option maxHeartbeats 4000000 in
set_option maxRecDepth 100000 in
theorem k_X0_stopTask (l : Launch) (E : Ev) (q : Nat → Nat) (hq : Dq q) {T C : Nat} (hT : T ≤ 16) (hC : 1 ≤ C ∧ C ≤ 4) (σ : St) (hI : Inv T C σ) (t : Int32) (z9 : Int32) (hp0 : vp_in t 16) : WI l 0 E q σ yX0_stopTask cX0_stopTask 4 (some .int) rm_X0_stopTask [.int t, .int z9] (f_X0_stopTask T C σ t z9) (g_X0_stopTask T C σ t z9) (Inv T C (g_X0_stopTask T C σ t z9) ∧ True) := by
  refine Met.ofB (by decide) (Nat.le_of_ble_eq_true rfl) (fun p e s m args below meth c ls Q B hQ hPK hl => ?_)
  obtain ⟨hx, hb, hml, hr, hlocks, hown, hts⟩ := B
  have S0 : Fx p m c cX0_stopTask 4 s args RX0 := ⟨hx, hb, hml, hown, hts⟩
  obtain ⟨hP, hK⟩ := hPK
  suffices KH : ∀ (H : Heap) (locs : List Loc), PP 0 E q σ H → va_S (Aq q) s.heap H locs → W p l e rm_X0_stopTask s m args below meth c H locs 0 0 Q (F0 m 0 ls []) from KH s.heap [] hP va_S.rf
  intro H locs hP hS
  have hl : lv_has ls 4 [(0, .ref (q 0)), (1, .int t), (2, .int z9)] := hl
  refine lv_aload_n hx hb dX0_stopTask_0 rfl (lv_at hl 0 rfl) ?_
  refine gf_X0_19 hx hb hts hown hK hP dX0_stopTask_1 ?_
  refine lv_iload_n hx hb dX0_stopTask_4 rfl (lv_at hl 1 rfl) ?_
  refine ld_3 hx hb hK hP hp0 dX0_stopTask_5 ?_
  refine lv_istore_n (lv' := [(3, .int (σ.1 3 (ix t))), (0, .ref (q 0)), (1, .int t), (2, .int z9)]) hx hb dX0_stopTask_6 rfl hl (by decide) rfl (fun ls hl => ?_)
  refine lv_iload_n hx hb dX0_stopTask_7 rfl (lv_at hl 0 rfl) ?_
  refine lv_iconst (v := 1) hx hb dX0_stopTask_8 (by decide) ?_
  refine cutG (fun ls H locs st => ∃ σ9 : St, σ9 = (if (σ.1 3 (ix t)) = 1 then (sI σ 8 (ix (σ.1 0 (ix t))) (-1)) else σ) ∧ st = [] ∧ lv_has ls 4 [(3, .int (σ.1 3 (ix t))), (0, .ref (q 0)), (1, .int t), (2, .int z9)] ∧ PP 0 E q σ9 H ∧ va_S (Aq q) s.heap H locs ∧ Inv T C σ9) 24 (fun ls H locs st hKp => ?_) (fun K9 => ?_)
  · obtain ⟨_, rfl, rfl, hl, hP, hS, hI⟩ := hKp
    refine lv_aload_n hx hb dX0_stopTask_24 rfl (lv_at hl 1 rfl) ?_
    refine gf_X0_19 hx hb hts hown hK hP dX0_stopTask_25 ?_
    refine lv_iload_n hx hb dX0_stopTask_28 rfl (lv_at hl 2 rfl) ?_
    refine lv_iload_n hx hb dX0_stopTask_29 rfl (lv_at hl 3 rfl) ?_
    refine st_3 hx hb hK hq hP hS hp0 dX0_stopTask_30 (fun H locs hP hS => ?_)
    have hI : Inv T C (sI (if (σ.1 3 (ix t)) = 1 then (sI σ 8 (ix (σ.1 0 (ix t))) (-1)) else σ) 3 (ix t) z9) := inv_sI (by decide) hI
    refine lv_iload_n hx hb dX0_stopTask_31 rfl (lv_at hl 0 rfl) ?_
    exact rt_WI hQ hx hb hr hlocks (Eq.subst (motive := fun z => PP 0 E q z H) (show (sI (if (σ.1 3 (ix t)) = 1 then (sI σ 8 (ix (σ.1 0 (ix t))) (-1)) else σ) 3 (ix t) z9) = (g_X0_stopTask T C σ t z9) from rfl) hP) hS ⟨rfl, ⟨Eq.subst (motive := fun z => Inv T C z) (show (sI (if (σ.1 3 (ix t)) = 1 then (sI σ 8 (ix (σ.1 0 (ix t))) (-1)) else σ) 3 (ix t) z9) = (g_X0_stopTask T C σ t z9) from rfl) hI, trivial⟩⟩ dX0_stopTask_32
  · refine lv_icmp_ne (tgt := 24) hx hb dX0_stopTask_9 (by decide) (fun h9 => ?_) (fun h9 => ?_)
    · skip
      exact K9 _ _ _ _ ⟨σ, (Eq.symm (if_neg h9)), rfl, lv_sub hl [0, 1, 2, 3] rfl, hP, hS, hI⟩
    · skip
      refine lv_aload_n hx hb dX0_stopTask_12 rfl (lv_at hl 1 rfl) ?_
      refine gf_X0_35 hx hb hts hown hK hP dX0_stopTask_13 ?_
      refine lv_aload_n hx hb dX0_stopTask_16 rfl (lv_at hl 1 rfl) ?_
      refine gf_X0_9 hx hb hts hown hK hP dX0_stopTask_17 ?_
      refine lv_iload_n hx hb dX0_stopTask_20 rfl (lv_at hl 2 rfl) ?_
      refine ld_0 hx hb hK hP hp0 dX0_stopTask_21 ?_
      refine lv_iconst (v := -1) hx hb dX0_stopTask_22 (by decide) ?_
      refine st_8 hx hb hK hq hP hS (hI.1 _) dX0_stopTask_23 (fun H locs hP hS => ?_)
      have hI : Inv T C (sI σ 8 (ix (σ.1 0 (ix t))) (-1)) := inv_sI (by decide) hI
      exact K9 _ _ _ _ ⟨(sI σ 8 (ix (σ.1 0 (ix t))) (-1)), (Eq.symm (if_pos h9)), rfl, lv_sub hl [0, 1, 2, 3] rfl, hP, hS, hI⟩
def g_X0_moveRunnable (T C : Nat) (σ : St) (t : Int32) (c9 : Int32) : St := (sI (sJ σ 4 (ix t) ((f_X0_relativeTime T C σ t) + (σ.2.1 7 (ix c9)))) 0 (ix t) c9)
def rm_X0_moveRunnable : Room := { frames := 1, cells := 0, slots := 0, locals := 21 }
set_option maxHeartbeats 4000000 in
set_option maxRecDepth 100000 in
theorem k_X0_moveRunnable (l : Launch) (E : Ev) (q : Nat → Nat) (hq : Dq q) {T C : Nat} (hT : T ≤ 16) (hC : 1 ≤ C ∧ C ≤ 4) (σ : St) (hI : Inv T C σ) (t : Int32) (c9 : Int32) (hp0 : vp_in t 16) (hp1 : vp_in c9 8) : WV l 0 E q σ yX0_moveRunnable cX0_moveRunnable 3 none rm_X0_moveRunnable [.int t, .int c9] (g_X0_moveRunnable T C σ t c9) (Inv T C (g_X0_moveRunnable T C σ t c9) ∧ True) := by
  refine Met.ofB (by decide) (Nat.le_of_ble_eq_true rfl) (fun p e s m args below meth c ls Q B hQ hPK hl => ?_)
  obtain ⟨hx, hb, hml, hr, hlocks, hown, hts⟩ := B
  have S0 : Fx p m c cX0_moveRunnable 3 s args RX0 := ⟨hx, hb, hml, hown, hts⟩
  obtain ⟨hP, hK⟩ := hPK
  suffices KH : ∀ (H : Heap) (locs : List Loc), PP 0 E q σ H → va_S (Aq q) s.heap H locs → W p l e rm_X0_moveRunnable s m args below meth c H locs 0 0 Q (F0 m 0 ls []) from KH s.heap [] hP va_S.rf
  intro H locs hP hS
  have hl : lv_has ls 3 [(0, .ref (q 0)), (1, .int t), (2, .int c9)] := hl
  refine lv_aload_n hx hb dX0_moveRunnable_0 rfl (lv_at hl 0 rfl) ?_
  refine gf_X0_22 hx hb hts hown hK hP dX0_moveRunnable_1 ?_
  refine lv_iload_n hx hb dX0_moveRunnable_4 rfl (lv_at hl 1 rfl) ?_
  refine lv_aload_n hx hb dX0_moveRunnable_5 rfl (lv_at hl 0 rfl) ?_
  refine lv_iload_n hx hb dX0_moveRunnable_6 rfl (lv_at hl 1 rfl) ?_
  refine cl_RJ (k_X0_relativeTime l E q hq hT hC σ hI t hp0) gw_X0_163 hd_X0_relativeTime ⟨rfl, rfl⟩ S0 hK hP (rest := [.int t, .ref (q 5)]) rfl hl.1 (Nat.le_of_ble_eq_true rfl) ⟨(Nat.le_of_ble_eq_true rfl), (Nat.le_of_ble_eq_true rfl)⟩ ⟨Nat.zero_le _, Nat.zero_le _⟩ dX0_moveRunnable_7 (fun hex => ?_)
  refine lv_aload_n hx hb dX0_moveRunnable_10 rfl (lv_at hl 0 rfl) ?_
  refine gf_X0_32 hx hb hts hown hK hP dX0_moveRunnable_11 ?_
  refine lv_iload_n hx hb dX0_moveRunnable_14 rfl (lv_at hl 2 rfl) ?_
  refine ld_7 hx hb hK hP hp1 dX0_moveRunnable_15 ?_
  refine lv_ladd hx hb dX0_moveRunnable_16 ?_
  refine st_4 hx hb hK hq hP hS hp0 dX0_moveRunnable_17 (fun H locs hP hS => ?_)
  have hI : Inv T C (sJ σ 4 (ix t) ((f_X0_relativeTime T C σ t) + (σ.2.1 7 (ix c9)))) := inv_sJ hI
  refine lv_aload_n hx hb dX0_moveRunnable_18 rfl (lv_at hl 0 rfl) ?_
  refine gf_X0_9 hx hb hts hown hK hP dX0_moveRunnable_19 ?_
  refine lv_iload_n hx hb dX0_moveRunnable_22 rfl (lv_at hl 1 rfl) ?_
  refine lv_iload_n hx hb dX0_moveRunnable_23 rfl (lv_at hl 2 rfl) ?_
  refine st_0 hx hb hK hq hP hS hp0 dX0_moveRunnable_24 (fun H locs hP hS => ?_)
  have hI : Inv T C (sI (sJ σ 4 (ix t) ((f_X0_relativeTime T C σ t) + (σ.2.1 7 (ix c9)))) 0 (ix t) c9) := inv_cpu hp1 hI
  exact rt_WV hQ hx hb hr hlocks (Eq.subst (motive := fun z => PP 0 E q z H) (show (sI (sJ σ 4 (ix t) ((f_X0_relativeTime T C σ t) + (σ.2.1 7 (ix c9)))) 0 (ix t) c9) = (g_X0_moveRunnable T C σ t c9) from rfl) hP) hS ⟨Eq.subst (motive := fun z => Inv T C z) (show (sI (sJ σ 4 (ix t) ((f_X0_relativeTime T C σ t) + (σ.2.1 7 (ix c9)))) 0 (ix t) c9) = (g_X0_moveRunnable T C σ t c9) from rfl) hI, trivial⟩ dX0_moveRunnable_25
def F_X0_startAnew_22 : Nat → St → St := fun i_22 z => (sI (sI (sI (sI (sJ z 7 (ix (nI i_22)) 0) 8 (ix (nI i_22)) (-1)) 9 (ix (nI i_22)) (vp_nar .boolean 0)) 10 (ix (nI i_22)) 0) 11 (ix (nI i_22)) 0)
def F_X0_startAnew_71 : Nat → St → St := fun i_71 z => (sI z 12 (ix (nI i_71)) (-1))
def g_X0_startAnew (T C : Nat) (σ : St) (n9 : Int32) : St := (lp F_X0_startAnew_71 4 0 (lp F_X0_startAnew_22 8 0 (sS (sS (sS (sS σ 13 n9) 14 0) 15 0) 16 0)))
def rm_X0_startAnew : Room := { frames := 0, cells := 0, slots := 0, locals := 0 }
set_option maxHeartbeats 4000000 in
set_option maxRecDepth 100000 in
theorem k_X0_startAnew (l : Launch) (E : Ev) (q : Nat → Nat) (hq : Dq q) {T C : Nat} (hT : T ≤ 16) (hC : 1 ≤ C ∧ C ≤ 4) (σ : St) (n9 : Int32) : WV l 0 E q σ yX0_startAnew cX0_startAnew 3 none rm_X0_startAnew [.int n9] (g_X0_startAnew T C σ n9) True := by
  refine Met.ofB (by decide) (Nat.le_of_ble_eq_true rfl) (fun p e s m args below meth c ls Q B hQ hPK hl => ?_)
  obtain ⟨hx, hb, hml, hr, hlocks, hown, hts⟩ := B
  have S0 : Fx p m c cX0_startAnew 3 s args RX0 := ⟨hx, hb, hml, hown, hts⟩
  obtain ⟨hP, hK⟩ := hPK
  suffices KH : ∀ (H : Heap) (locs : List Loc), PP 0 E q σ H → va_S (Aq q) s.heap H locs → W p l e rm_X0_startAnew s m args below meth c H locs 0 0 Q (F0 m 0 ls []) from KH s.heap [] hP va_S.rf
  intro H locs hP hS
  have hl : lv_has ls 3 [(0, .ref (q 0)), (1, .int n9)] := hl
  refine lv_aload_n hx hb dX0_startAnew_0 rfl (lv_at hl 0 rfl) ?_
  refine lv_iload_n hx hb dX0_startAnew_1 rfl (lv_at hl 1 rfl) ?_
  refine pf_X0_62 hx hb hts hown hK hq hP hS dX0_startAnew_2 (fun H locs hP hS => ?_)
  refine lv_aload_n hx hb dX0_startAnew_5 rfl (lv_at hl 0 rfl) ?_
  refine lv_iconst (v := 0) hx hb dX0_startAnew_6 (by decide) ?_
  refine pf_X0_85 hx hb hts hown hK hq hP hS dX0_startAnew_7 (fun H locs hP hS => ?_)
  refine lv_aload_n hx hb dX0_startAnew_10 rfl (lv_at hl 0 rfl) ?_
  refine lv_iconst (v := 0) hx hb dX0_startAnew_11 (by decide) ?_
  refine pf_X0_142 hx hb hts hown hK hq hP hS dX0_startAnew_12 (fun H locs hP hS => ?_)
  refine lv_aload_n hx hb dX0_startAnew_15 rfl (lv_at hl 0 rfl) ?_
  refine lv_iconst (v := 0) hx hb dX0_startAnew_16 (by decide) ?_
  refine pf_X0_66 hx hb hts hown hK hq hP hS (nbf (by first | assumption | decide)) dX0_startAnew_17 (fun H locs hP hS => ?_)
  refine lv_iconst (v := 0) hx hb dX0_startAnew_20 (by decide) ?_
  refine lv_istore_n (lv' := [(2, .int 0), (0, .ref (q 0)), (1, .int n9)]) hx hb dX0_startAnew_21 rfl hl (by decide) rfl (fun ls hl => ?_)
  have L_22 : ∀ (n_22 i_22 : Nat) (τ_22 : St) (ls : Array Slot) (H : Heap) (locs : List Loc), i_22 + n_22 = 8 → lp F_X0_startAnew_22 n_22 i_22 τ_22 = (lp F_X0_startAnew_22 8 0 (sS (sS (sS (sS σ 13 n9) 14 0) 15 0) 16 0)) → lv_has ls 3 [(2, .int (nI i_22)), (0, .ref (q 0)), (1, .int n9)] → PP 0 E q τ_22 H → va_S (Aq q) s.heap H locs → W p l e rm_X0_startAnew s m args below meth c H locs 0 0 Q (F0 m 22 ls []) := by
    intro n_22
    induction n_22 with
    | zero =>
      intro i_22 τ_22 ls H locs hi_22 hres hl hP hS
      have hres : τ_22 = (lp F_X0_startAnew_22 8 0 (sS (sS (sS (sS σ 13 n9) 14 0) 15 0) 16 0)) := hres
      subst hres
      refine lv_iload_n hx hb dX0_startAnew_22 rfl (lv_at hl 0 rfl) ?_
      refine lv_bipush (v := 8) hx hb dX0_startAnew_23 (by decide) ?_
      refine lv_icmp_ge (tgt := 69) hx hb dX0_startAnew_25 (by decide) (fun _ => ?_) (fun h => absurd (lp_out (show (8 : Int32) = nI 8 from rfl) (by omega) hi_22) h)
      have hl := lv_sub (l' := [(0, .ref (q 0)), (1, .int n9)]) hl [1, 2] rfl
      refine lv_iconst (v := 0) hx hb dX0_startAnew_69 (by decide) ?_
      refine lv_istore_n (lv' := [(2, .int 0), (0, .ref (q 0)), (1, .int n9)]) hx hb dX0_startAnew_70 rfl hl (by decide) rfl (fun ls hl => ?_)
      have L_71 : ∀ (n_71 i_71 : Nat) (τ_71 : St) (ls : Array Slot) (H : Heap) (locs : List Loc), i_71 + n_71 = 4 → lp F_X0_startAnew_71 n_71 i_71 τ_71 = (lp F_X0_startAnew_71 4 0 (lp F_X0_startAnew_22 8 0 (sS (sS (sS (sS σ 13 n9) 14 0) 15 0) 16 0))) → lv_has ls 3 [(2, .int (nI i_71)), (0, .ref (q 0)), (1, .int n9)] → PP 0 E q τ_71 H → va_S (Aq q) s.heap H locs → W p l e rm_X0_startAnew s m args below meth c H locs 0 0 Q (F0 m 71 ls []) := by
        intro n_71
        induction n_71 with
        | zero =>
          intro i_71 τ_71 ls H locs hi_71 hres hl hP hS
          have hres : τ_71 = (lp F_X0_startAnew_71 4 0 (lp F_X0_startAnew_22 8 0 (sS (sS (sS (sS σ 13 n9) 14 0) 15 0) 16 0))) := hres
          subst hres
          refine lv_iload_n hx hb dX0_startAnew_71 rfl (lv_at hl 0 rfl) ?_
          refine lv_iconst (v := 4) hx hb dX0_startAnew_72 (by decide) ?_
          refine lv_icmp_ge (tgt := 89) hx hb dX0_startAnew_73 (by decide) (fun _ => ?_) (fun h => absurd (lp_out (show (4 : Int32) = nI 4 from rfl) (by omega) hi_71) h)
          have hl := lv_sub (l' := [(0, .ref (q 0)), (1, .int n9)]) hl [1, 2] rfl
          exact rt_WV hQ hx hb hr hlocks (Eq.subst (motive := fun z => PP 0 E q z H) (show (lp F_X0_startAnew_71 4 0 (lp F_X0_startAnew_22 8 0 (sS (sS (sS (sS σ 13 n9) 14 0) 15 0) 16 0))) = (g_X0_startAnew T C σ n9) from rfl) hP) hS trivial dX0_startAnew_89
        | succ n_71 ih_71 =>
          intro i_71 τ_71 ls H locs hi_71 hres hl hP hS
          refine lv_iload_n hx hb dX0_startAnew_71 rfl (lv_at hl 0 rfl) ?_
          refine lv_iconst (v := 4) hx hb dX0_startAnew_72 (by decide) ?_
          refine lv_icmp_ge (tgt := 89) hx hb dX0_startAnew_73 (by decide) (fun h => absurd h (lp_in (show (4 : Int32) = nI 4 from rfl) (by omega) hi_71)) (fun _ => ?_)
          refine lv_aload_n hx hb dX0_startAnew_76 rfl (lv_at hl 1 rfl) ?_
          refine gf_X0_48 hx hb hts hown hK hP dX0_startAnew_77 ?_
          refine lv_iload_n hx hb dX0_startAnew_80 rfl (lv_at hl 0 rfl) ?_
          refine lv_iconst (v := -1) hx hb dX0_startAnew_81 (by decide) ?_
          refine st_12 hx hb hK hq hP hS (vp_in_nI (by omega) (by decide)) dX0_startAnew_82 (fun H locs hP hS => ?_)
          refine lv_iinc (v := (nI (i_71 + 1))) (lv' := [(2, .int (nI (i_71 + 1))), (0, .ref (q 0)), (1, .int n9)]) hx hb dX0_startAnew_83 hl (k := 0) rfl (nI_1 _) (by decide) rfl (fun ls hl => ?_)
          refine lv_goto (tgt := 71) hx hb dX0_startAnew_86 (by decide) ?_
          exact ih_71 (i_71 + 1) (sI τ_71 12 (ix (nI i_71)) (-1)) ls H locs (by omega) hres (lv_sub (l' := [(2, .int (nI (i_71 + 1))), (0, .ref (q 0)), (1, .int n9)]) hl [0, 1, 2] rfl) (Eq.subst (motive := fun z => PP 0 E q z H) (show (sI τ_71 12 (ix (nI i_71)) (-1)) = (sI τ_71 12 (ix (nI i_71)) (-1)) from rfl) hP) hS
      exact L_71 4 0 (lp F_X0_startAnew_22 8 0 (sS (sS (sS (sS σ 13 n9) 14 0) 15 0) 16 0)) ls H locs rfl rfl (lv_sub hl [0, 1, 2] rfl) hP hS
    | succ n_22 ih_22 =>
      intro i_22 τ_22 ls H locs hi_22 hres hl hP hS
      refine lv_iload_n hx hb dX0_startAnew_22 rfl (lv_at hl 0 rfl) ?_
      refine lv_bipush (v := 8) hx hb dX0_startAnew_23 (by decide) ?_
      refine lv_icmp_ge (tgt := 69) hx hb dX0_startAnew_25 (by decide) (fun h => absurd h (lp_in (show (8 : Int32) = nI 8 from rfl) (by omega) hi_22)) (fun _ => ?_)
      refine lv_aload_n hx hb dX0_startAnew_28 rfl (lv_at hl 1 rfl) ?_
      refine gf_X0_32 hx hb hts hown hK hP dX0_startAnew_29 ?_
      refine lv_iload_n hx hb dX0_startAnew_32 rfl (lv_at hl 0 rfl) ?_
      refine lv_lconst (v := 0) hx hb dX0_startAnew_33 (by decide) ?_
      refine st_7 hx hb hK hq hP hS (vp_in_nI (by omega) (by decide)) dX0_startAnew_34 (fun H locs hP hS => ?_)
      refine lv_aload_n hx hb dX0_startAnew_35 rfl (lv_at hl 1 rfl) ?_
      refine gf_X0_35 hx hb hts hown hK hP dX0_startAnew_36 ?_
      refine lv_iload_n hx hb dX0_startAnew_39 rfl (lv_at hl 0 rfl) ?_
      refine lv_iconst (v := -1) hx hb dX0_startAnew_40 (by decide) ?_
      refine st_8 hx hb hK hq hP hS (vp_in_nI (by omega) (by decide)) dX0_startAnew_41 (fun H locs hP hS => ?_)
      refine lv_aload_n hx hb dX0_startAnew_42 rfl (lv_at hl 1 rfl) ?_
      refine gf_X0_38 hx hb hts hown hK hP dX0_startAnew_43 ?_
      refine lv_iload_n hx hb dX0_startAnew_46 rfl (lv_at hl 0 rfl) ?_
      refine lv_iconst (v := 0) hx hb dX0_startAnew_47 (by decide) ?_
      refine st_9 hx hb hK hq hP hS (vp_in_nI (by omega) (by decide)) dX0_startAnew_48 (fun H locs hP hS => ?_)
      refine lv_aload_n hx hb dX0_startAnew_49 rfl (lv_at hl 1 rfl) ?_
      refine gf_X0_42 hx hb hts hown hK hP dX0_startAnew_50 ?_
      refine lv_iload_n hx hb dX0_startAnew_53 rfl (lv_at hl 0 rfl) ?_
      refine lv_iconst (v := 0) hx hb dX0_startAnew_54 (by decide) ?_
      refine st_10 hx hb hK hq hP hS (vp_in_nI (by omega) (by decide)) dX0_startAnew_55 (fun H locs hP hS => ?_)
      refine lv_aload_n hx hb dX0_startAnew_56 rfl (lv_at hl 1 rfl) ?_
      refine gf_X0_45 hx hb hts hown hK hP dX0_startAnew_57 ?_
      refine lv_iload_n hx hb dX0_startAnew_60 rfl (lv_at hl 0 rfl) ?_
      refine lv_iconst (v := 0) hx hb dX0_startAnew_61 (by decide) ?_
      refine st_11 hx hb hK hq hP hS (vp_in_nI (by omega) (by decide)) dX0_startAnew_62 (fun H locs hP hS => ?_)
      refine lv_iinc (v := (nI (i_22 + 1))) (lv' := [(2, .int (nI (i_22 + 1))), (0, .ref (q 0)), (1, .int n9)]) hx hb dX0_startAnew_63 hl (k := 0) rfl (nI_1 _) (by decide) rfl (fun ls hl => ?_)
      refine lv_goto (tgt := 22) hx hb dX0_startAnew_66 (by decide) ?_
      exact ih_22 (i_22 + 1) (sI (sI (sI (sI (sJ τ_22 7 (ix (nI i_22)) 0) 8 (ix (nI i_22)) (-1)) 9 (ix (nI i_22)) (vp_nar .boolean 0)) 10 (ix (nI i_22)) 0) 11 (ix (nI i_22)) 0) ls H locs (by omega) hres (lv_sub (l' := [(2, .int (nI (i_22 + 1))), (0, .ref (q 0)), (1, .int n9)]) hl [0, 1, 2] rfl) (Eq.subst (motive := fun z => PP 0 E q z H) (show (sI (sI (sI (sI (sJ τ_22 7 (ix (nI i_22)) 0) 8 (ix (nI i_22)) (-1)) 9 (ix (nI i_22)) (vp_nar .boolean 0)) 10 (ix (nI i_22)) 0) 11 (ix (nI i_22)) 0) = (sI (sI (sI (sI (sJ τ_22 7 (ix (nI i_22)) 0) 8 (ix (nI i_22)) (-1)) 9 (ix (nI i_22)) (vp_nar .boolean 0)) 10 (ix (nI i_22)) 0) 11 (ix (nI i_22)) 0) from rfl) hP) hS
  exact L_22 8 0 (sS (sS (sS (sS σ 13 n9) 14 0) 15 0) 16 0) ls H locs rfl rfl (lv_sub hl [0, 1, 2] rfl) hP hS
def f_X0_setStealing (T C : Nat) (σ : St) (b9 : Int32) : Int32 := (σ.2.2 16)
def g_X0_setStealing (T C : Nat) (σ : St) (b9 : Int32) : St := (sS σ 16 b9)
def rm_X0_setStealing : Room := { frames := 0, cells := 0, slots := 0, locals := 0 }
set_option maxHeartbeats 4000000 in
set_option maxRecDepth 100000 in
theorem k_X0_setStealing (l : Launch) (E : Ev) (q : Nat → Nat) (hq : Dq q) {T C : Nat} (hT : T ≤ 16) (hC : 1 ≤ C ∧ C ≤ 4) (σ : St) (hI : Inv T C σ) (b9 : Int32) (hp0 : b9 = 0 ∨ b9 = 1) (hp1 : σ.2.2 16 = 0 ∨ σ.2.2 16 = 1) : WI l 0 E q σ yX0_setStealing cX0_setStealing 3 (some .boolean) rm_X0_setStealing [.int b9] (f_X0_setStealing T C σ b9) (g_X0_setStealing T C σ b9) (Inv T C (g_X0_setStealing T C σ b9) ∧ True) := by
  refine Met.ofB (by decide) (Nat.le_of_ble_eq_true rfl) (fun p e s m args below meth c ls Q B hQ hPK hl => ?_)
  obtain ⟨hx, hb, hml, hr, hlocks, hown, hts⟩ := B
  have S0 : Fx p m c cX0_setStealing 3 s args RX0 := ⟨hx, hb, hml, hown, hts⟩
  obtain ⟨hP, hK⟩ := hPK
  suffices KH : ∀ (H : Heap) (locs : List Loc), PP 0 E q σ H → va_S (Aq q) s.heap H locs → W p l e rm_X0_setStealing s m args below meth c H locs 0 0 Q (F0 m 0 ls []) from KH s.heap [] hP va_S.rf
  intro H locs hP hS
  have hl : lv_has ls 3 [(0, .ref (q 0)), (1, .int b9)] := hl
  refine lv_aload_n hx hb dX0_setStealing_0 rfl (lv_at hl 0 rfl) ?_
  refine gf_X0_66 hx hb hts hown hK hP dX0_setStealing_1 ?_
  refine lv_istore_n (lv' := [(2, .int (σ.2.2 16)), (0, .ref (q 0)), (1, .int b9)]) hx hb dX0_setStealing_4 rfl hl (by decide) rfl (fun ls hl => ?_)
  refine lv_aload_n hx hb dX0_setStealing_5 rfl (lv_at hl 1 rfl) ?_
  refine lv_iload_n hx hb dX0_setStealing_6 rfl (lv_at hl 2 rfl) ?_
  refine pf_X0_66 hx hb hts hown hK hq hP hS (nbf (by first | assumption | decide)) dX0_setStealing_7 (fun H locs hP hS => ?_)
  have hI : Inv T C (sS σ 16 b9) := inv_sS (by decide) hI
  refine lv_iload_n hx hb dX0_setStealing_10 rfl (lv_at hl 0 rfl) ?_
  exact rt_WZ hQ hx hb hr hlocks (nbf hp1).1 (Eq.subst (motive := fun z => PP 0 E q z H) (show (sS σ 16 b9) = (g_X0_setStealing T C σ b9) from rfl) hP) hS ⟨rfl, ⟨Eq.subst (motive := fun z => Inv T C z) (show (sS σ 16 b9) = (g_X0_setStealing T C σ b9) from rfl) hI, trivial⟩⟩ dX0_setStealing_11
def F_X0_releaseTasks_2 (T : Nat) (C : Nat) (r9 : Int32) : Nat → St → St := fun i_2 z => (if (z.1 3 (ix (nI i_2))) = 1 then (if (f_X0_isOnCore T C z (nI i_2) r9) = 0 then z else (sI z 3 (ix (nI i_2)) 0)) else z)
def g_X0_releaseTasks (T C : Nat) (σ : St) (r9 : Int32) : St := (lp (F_X0_releaseTasks_2 T C r9) T 0 σ)
def rm_X0_releaseTasks : Room := { frames := 2, cells := 0, slots := 0, locals := 42 }
set_option maxHeartbeats 4000000 in
set_option maxRecDepth 100000 in
theorem k_X0_releaseTasks (l : Launch) (E : Ev) (q : Nat → Nat) (hq : Dq q) {T C : Nat} (hT : T ≤ 16) (hC : 1 ≤ C ∧ C ≤ 4) (σ : St) (hI : Inv T C σ) (r9 : Int32) : WV l 0 E q σ yX0_releaseTasks cX0_releaseTasks 3 none rm_X0_releaseTasks [.int r9] (g_X0_releaseTasks T C σ r9) (Inv T C (g_X0_releaseTasks T C σ r9) ∧ True) := by
  refine Met.ofB (by decide) (Nat.le_of_ble_eq_true rfl) (fun p e s m args below meth c ls Q B hQ hPK hl => ?_)
  obtain ⟨hx, hb, hml, hr, hlocks, hown, hts⟩ := B
  have S0 : Fx p m c cX0_releaseTasks 3 s args RX0 := ⟨hx, hb, hml, hown, hts⟩
  obtain ⟨hP, hK⟩ := hPK
  suffices KH : ∀ (H : Heap) (locs : List Loc), PP 0 E q σ H → va_S (Aq q) s.heap H locs → W p l e rm_X0_releaseTasks s m args below meth c H locs 0 0 Q (F0 m 0 ls []) from KH s.heap [] hP va_S.rf
  intro H locs hP hS
  have hl : lv_has ls 3 [(0, .ref (q 0)), (1, .int r9)] := hl
  refine lv_iconst (v := 0) hx hb dX0_releaseTasks_0 (by decide) ?_
  refine lv_istore_n (lv' := [(2, .int 0), (0, .ref (q 0)), (1, .int r9)]) hx hb dX0_releaseTasks_1 rfl hl (by decide) rfl (fun ls hl => ?_)
  have L_2 : ∀ (n_2 i_2 : Nat) (τ_2 : St) (ls : Array Slot) (H : Heap) (locs : List Loc), i_2 + n_2 = T → lp (F_X0_releaseTasks_2 T C r9) n_2 i_2 τ_2 = (lp (F_X0_releaseTasks_2 T C r9) T 0 σ) → Inv T C τ_2 → lv_has ls 3 [(2, .int (nI i_2)), (0, .ref (q 0)), (1, .int r9)] → PP 0 E q τ_2 H → va_S (Aq q) s.heap H locs → W p l e rm_X0_releaseTasks s m args below meth c H locs 0 0 Q (F0 m 2 ls []) := by
    intro n_2
    induction n_2 with
    | zero =>
      intro i_2 τ_2 ls H locs hi_2 hres hI hl hP hS
      have hres : τ_2 = (lp (F_X0_releaseTasks_2 T C r9) T 0 σ) := hres
      subst hres
      refine lv_iload_n hx hb dX0_releaseTasks_2 rfl (lv_at hl 0 rfl) ?_
      refine lv_aload_n hx hb dX0_releaseTasks_3 rfl (lv_at hl 1 rfl) ?_
      refine gf_X0_85 hx hb hts hown hK hP dX0_releaseTasks_4 ?_
      refine lv_icmp_ge (tgt := 42) hx hb dX0_releaseTasks_7 (by decide) (fun _ => ?_) (fun h => absurd (lp_out hI.2.1 (by omega) hi_2) h)
      have hl := lv_sub (l' := [(0, .ref (q 0)), (1, .int r9)]) hl [1, 2] rfl
      exact rt_WV hQ hx hb hr hlocks (Eq.subst (motive := fun z => PP 0 E q z H) (show (lp (F_X0_releaseTasks_2 T C r9) T 0 σ) = (g_X0_releaseTasks T C σ r9) from rfl) hP) hS ⟨Eq.subst (motive := fun z => Inv T C z) (show (lp (F_X0_releaseTasks_2 T C r9) T 0 σ) = (g_X0_releaseTasks T C σ r9) from rfl) hI, trivial⟩ dX0_releaseTasks_42
    | succ n_2 ih_2 =>
      intro i_2 τ_2 ls H locs hi_2 hres hI hl hP hS
      refine lv_iload_n hx hb dX0_releaseTasks_2 rfl (lv_at hl 0 rfl) ?_
      refine lv_aload_n hx hb dX0_releaseTasks_3 rfl (lv_at hl 1 rfl) ?_
      refine gf_X0_85 hx hb hts hown hK hP dX0_releaseTasks_4 ?_
      refine lv_icmp_ge (tgt := 42) hx hb dX0_releaseTasks_7 (by decide) (fun h => absurd h (lp_in hI.2.1 (by omega) hi_2)) (fun _ => ?_)
      refine lv_aload_n hx hb dX0_releaseTasks_10 rfl (lv_at hl 1 rfl) ?_
      refine gf_X0_19 hx hb hts hown hK hP dX0_releaseTasks_11 ?_
      refine lv_iload_n hx hb dX0_releaseTasks_14 rfl (lv_at hl 0 rfl) ?_
      refine ld_3 hx hb hK hP (vp_in_nI (by omega) (by decide)) dX0_releaseTasks_15 ?_
      refine lv_iconst (v := 1) hx hb dX0_releaseTasks_16 (by decide) ?_
      refine cutG (fun ls H locs st => ∃ σ9 : St, σ9 = (if (τ_2.1 3 (ix (nI i_2))) = 1 then (if (f_X0_isOnCore T C τ_2 (nI i_2) r9) = 0 then τ_2 else (sI τ_2 3 (ix (nI i_2)) 0)) else τ_2) ∧ st = [] ∧ lv_has ls 3 [(2, .int (nI i_2)), (0, .ref (q 0)), (1, .int r9)] ∧ PP 0 E q σ9 H ∧ va_S (Aq q) s.heap H locs ∧ Inv T C σ9) 36 (fun ls H locs st hKp => ?_) (fun K17 => ?_)
      · obtain ⟨_, rfl, rfl, hl, hP, hS, hI⟩ := hKp
        refine lv_iinc (v := (nI (i_2 + 1))) (lv' := [(2, .int (nI (i_2 + 1))), (0, .ref (q 0)), (1, .int r9)]) hx hb dX0_releaseTasks_36 hl (k := 0) rfl (nI_1 _) (by decide) rfl (fun ls hl => ?_)
        refine lv_goto (tgt := 2) hx hb dX0_releaseTasks_39 (by decide) ?_
        exact ih_2 (i_2 + 1) (if (τ_2.1 3 (ix (nI i_2))) = 1 then (if (f_X0_isOnCore T C τ_2 (nI i_2) r9) = 0 then τ_2 else (sI τ_2 3 (ix (nI i_2)) 0)) else τ_2) ls H locs (by omega) hres (Eq.subst (motive := fun z => Inv T C z) (show (if (τ_2.1 3 (ix (nI i_2))) = 1 then (if (f_X0_isOnCore T C τ_2 (nI i_2) r9) = 0 then τ_2 else (sI τ_2 3 (ix (nI i_2)) 0)) else τ_2) = (if (τ_2.1 3 (ix (nI i_2))) = 1 then (if (f_X0_isOnCore T C τ_2 (nI i_2) r9) = 0 then τ_2 else (sI τ_2 3 (ix (nI i_2)) 0)) else τ_2) from rfl) hI) (lv_sub (l' := [(2, .int (nI (i_2 + 1))), (0, .ref (q 0)), (1, .int r9)]) hl [0, 1, 2] rfl) (Eq.subst (motive := fun z => PP 0 E q z H) (show (if (τ_2.1 3 (ix (nI i_2))) = 1 then (if (f_X0_isOnCore T C τ_2 (nI i_2) r9) = 0 then τ_2 else (sI τ_2 3 (ix (nI i_2)) 0)) else τ_2) = (if (τ_2.1 3 (ix (nI i_2))) = 1 then (if (f_X0_isOnCore T C τ_2 (nI i_2) r9) = 0 then τ_2 else (sI τ_2 3 (ix (nI i_2)) 0)) else τ_2) from rfl) hP) hS
      · refine lv_icmp_ne (tgt := 36) hx hb dX0_releaseTasks_17 (by decide) (fun h17 => ?_) (fun h17 => ?_)
        · skip
          exact K17 _ _ _ _ ⟨τ_2, (Eq.symm (if_neg h17)), rfl, lv_sub hl [0, 1, 2] rfl, hP, hS, hI⟩
        · skip
          refine lv_aload_n hx hb dX0_releaseTasks_20 rfl (lv_at hl 1 rfl) ?_
          refine lv_iload_n hx hb dX0_releaseTasks_21 rfl (lv_at hl 0 rfl) ?_
          refine lv_iload_n hx hb dX0_releaseTasks_22 rfl (lv_at hl 2 rfl) ?_
          refine cl_RI (k_X0_isOnCore l E q hq hT hC τ_2 hI (nI i_2) r9 (vp_in_nI (by omega) (by decide))) gw_X0_185 hd_X0_isOnCore ⟨rfl, rfl⟩ S0 hK hP (rest := []) rfl hl.1 (Nat.le_of_ble_eq_true rfl) ⟨(Nat.le_of_ble_eq_true rfl), (Nat.le_of_ble_eq_true rfl)⟩ ⟨Nat.zero_le _, Nat.zero_le _⟩ dX0_releaseTasks_23 (fun hex => ?_)
          refine lv_if_eq (tgt := 36) hx hb dX0_releaseTasks_26 (by decide) (fun h26 => ?_) (fun h26 => ?_)
          · skip
            exact K17 _ _ _ _ ⟨τ_2, (Eq.symm (Eq.trans (if_pos h17) (if_pos h26))), rfl, lv_sub hl [0, 1, 2] rfl, hP, hS, hI⟩
          · skip
            refine lv_aload_n hx hb dX0_releaseTasks_29 rfl (lv_at hl 1 rfl) ?_
            refine gf_X0_19 hx hb hts hown hK hP dX0_releaseTasks_30 ?_
            refine lv_iload_n hx hb dX0_releaseTasks_33 rfl (lv_at hl 0 rfl) ?_
            refine lv_iconst (v := 0) hx hb dX0_releaseTasks_34 (by decide) ?_
            refine st_3 hx hb hK hq hP hS (vp_in_nI (by omega) (by decide)) dX0_releaseTasks_35 (fun H locs hP hS => ?_)
            have hI : Inv T C (sI τ_2 3 (ix (nI i_2)) 0) := inv_sI (by decide) hI
            exact K17 _ _ _ _ ⟨(sI τ_2 3 (ix (nI i_2)) 0), (Eq.symm (Eq.trans (if_pos h17) (if_neg h26))), rfl, lv_sub hl [0, 1, 2] rfl, hP, hS, hI⟩
  exact L_2 T 0 σ ls H locs (Nat.zero_add T) rfl hI (lv_sub hl [0, 1, 2] rfl) hP hS
def f_X0_takeTask (T C : Nat) (σ : St) (c9 : Int32) (k9 : Int32) : Int32 := (if (f_X0_findOwn T C σ c9 k9) = (-1) then (if (σ.2.2 16) = 0 then (f_X0_findOwn T C σ c9 k9) else (f_X0_findLoot T C σ (f_X0_coreOfCpu c9) k9)) else (f_X0_findOwn T C σ c9 k9))
def g_X0_takeTask (T C : Nat) (σ : St) (c9 : Int32) (k9 : Int32) : St := (if (f_X0_findOwn T C σ c9 k9) = (-1) then (if (σ.2.2 16) = 0 then σ else (if (f_X0_findLoot T C σ (f_X0_coreOfCpu c9) k9) = (-1) then σ else (sS (g_X0_moveRunnable T C σ (f_X0_findLoot T C σ (f_X0_coreOfCpu c9) k9) c9) 15 (((g_X0_moveRunnable T C σ (f_X0_findLoot T C σ (f_X0_coreOfCpu c9) k9) c9).2.2 15) + 1)))) else σ)
def rm_X0_takeTask : Room := { frames := 4, cells := 0, slots := 0, locals := 89 }
set_option maxHeartbeats 4000000 in
set_option maxRecDepth 100000 in
theorem k_X0_takeTask (l : Launch) (E : Ev) (q : Nat → Nat) (hq : Dq q) {T C : Nat} (hT : T ≤ 16) (hC : 1 ≤ C ∧ C ≤ 4) (σ : St) (hI : Inv T C σ) (c9 : Int32) (k9 : Int32) (hp0 : vp_in c9 8) : WI l 0 E q σ yX0_takeTask cX0_takeTask 5 (some .int) rm_X0_takeTask [.int c9, .int k9] (f_X0_takeTask T C σ c9 k9) (g_X0_takeTask T C σ c9 k9) (Inv T C (g_X0_takeTask T C σ c9 k9) ∧ vo (f_X0_takeTask T C σ c9 k9) ∧ True) := by
  refine Met.ofB (by decide) (Nat.le_of_ble_eq_true rfl) (fun p e s m args below meth c ls Q B hQ hPK hl => ?_)
  obtain ⟨hx, hb, hml, hr, hlocks, hown, hts⟩ := B
  have S0 : Fx p m c cX0_takeTask 5 s args RX0 := ⟨hx, hb, hml, hown, hts⟩
  obtain ⟨hP, hK⟩ := hPK
  suffices KH : ∀ (H : Heap) (locs : List Loc), PP 0 E q σ H → va_S (Aq q) s.heap H locs → W p l e rm_X0_takeTask s m args below meth c H locs 0 0 Q (F0 m 0 ls []) from KH s.heap [] hP va_S.rf
  intro H locs hP hS
  have hl : lv_has ls 5 [(0, .ref (q 0)), (1, .int c9), (2, .int k9)] := hl
  refine lv_aload_n hx hb dX0_takeTask_0 rfl (lv_at hl 0 rfl) ?_
  refine lv_iload_n hx hb dX0_takeTask_1 rfl (lv_at hl 1 rfl) ?_
  refine lv_iload_n hx hb dX0_takeTask_2 rfl (lv_at hl 2 rfl) ?_
  refine cl_RI (k_X0_findOwn l E q hq hT hC σ hI c9 k9 ) gw_X0_188 hd_X0_findOwn ⟨rfl, rfl⟩ S0 hK hP (rest := []) rfl hl.1 (Nat.le_of_ble_eq_true rfl) ⟨(Nat.le_of_ble_eq_true rfl), (Nat.le_of_ble_eq_true rfl)⟩ ⟨Nat.zero_le _, Nat.zero_le _⟩ dX0_takeTask_3 (fun hex => ?_)
  obtain ⟨hx3_0, -⟩ := hex
  refine lv_istore_n (lv' := [(3, .int (f_X0_findOwn T C σ c9 k9)), (0, .ref (q 0)), (1, .int c9), (2, .int k9)]) hx hb dX0_takeTask_6 rfl hl (by decide) rfl (fun ls hl => ?_)
  refine lv_iload_n hx hb dX0_takeTask_7 rfl (lv_at hl 0 rfl) ?_
  refine lv_iconst (v := -1) hx hb dX0_takeTask_8 (by decide) ?_
  refine lv_icmp_ne (tgt := 19) hx hb dX0_takeTask_9 (by decide) (fun h9 => ?_) (fun h9 => ?_)
  · skip
    refine lv_iload_n hx hb dX0_takeTask_19 rfl (lv_at hl 0 rfl) ?_
    exact rt_WI hQ hx hb hr hlocks (Eq.subst (motive := fun z => PP 0 E q z H) (show σ = (g_X0_takeTask T C σ c9 k9) from (Eq.symm (if_neg h9))) hP) hS ⟨(Eq.symm (if_neg h9)), ⟨Eq.subst (motive := fun z => Inv T C z) (show σ = (g_X0_takeTask T C σ c9 k9) from (Eq.symm (if_neg h9))) hI, Eq.subst (motive := fun z => vo z) (show (f_X0_findOwn T C σ c9 k9) = (f_X0_takeTask T C σ c9 k9) from (Eq.symm (if_neg h9))) (show vo (f_X0_findOwn T C σ c9 k9) from hx3_0), trivial⟩⟩ dX0_takeTask_20
  · skip
    refine lv_aload_n hx hb dX0_takeTask_12 rfl (lv_at hl 1 rfl) ?_
    refine gf_X0_66 hx hb hts hown hK hP dX0_takeTask_13 ?_
    refine lv_if_ne (tgt := 21) hx hb dX0_takeTask_16 (by decide) (fun h16 => ?_) (fun h16 => ?_)
    · skip
      refine lv_aload_n hx hb dX0_takeTask_21 rfl (lv_at hl 1 rfl) ?_
      refine lv_iload_n hx hb dX0_takeTask_22 rfl (lv_at hl 2 rfl) ?_
      refine cl_NI (k_X0_coreOfCpu l c9) gw_X0_160 hd_X0_coreOfCpu ⟨rfl, rfl⟩ S0 (rest := [.ref (q 0)]) rfl hl.1 (Nat.le_of_ble_eq_true rfl) ⟨(Nat.le_of_ble_eq_true rfl), (Nat.le_of_ble_eq_true rfl)⟩ ⟨Nat.zero_le _, Nat.zero_le _⟩ dX0_takeTask_23 ?_
      refine lv_iload_n hx hb dX0_takeTask_26 rfl (lv_at hl 3 rfl) ?_
      refine cl_RI (k_X0_findLoot l E q hq hT hC σ hI (f_X0_coreOfCpu c9) k9 ) gw_X0_191 hd_X0_findLoot ⟨rfl, rfl⟩ S0 hK hP (rest := []) rfl hl.1 (Nat.le_of_ble_eq_true rfl) ⟨(Nat.le_of_ble_eq_true rfl), (Nat.le_of_ble_eq_true rfl)⟩ ⟨Nat.zero_le _, Nat.zero_le _⟩ dX0_takeTask_27 (fun hex => ?_)
      obtain ⟨hx27_0, -⟩ := hex
      refine lv_istore (lv' := [(4, .int (f_X0_findLoot T C σ (f_X0_coreOfCpu c9) k9)), (3, .int (f_X0_findOwn T C σ c9 k9)), (0, .ref (q 0)), (1, .int c9), (2, .int k9)]) hx hb dX0_takeTask_30 hl (by decide) rfl (fun ls hl => ?_)
      refine lv_iload hx hb dX0_takeTask_32 (lv_at hl 0 rfl) ?_
      refine lv_iconst (v := -1) hx hb dX0_takeTask_34 (by decide) ?_
      refine cutG (fun ls H locs st => ∃ σ9 : St, σ9 = (if (f_X0_findLoot T C σ (f_X0_coreOfCpu c9) k9) = (-1) then σ else (sS (g_X0_moveRunnable T C σ (f_X0_findLoot T C σ (f_X0_coreOfCpu c9) k9) c9) 15 (((g_X0_moveRunnable T C σ (f_X0_findLoot T C σ (f_X0_coreOfCpu c9) k9) c9).2.2 15) + 1))) ∧ st = [] ∧ lv_has ls 5 [(4, .int (f_X0_findLoot T C σ (f_X0_coreOfCpu c9) k9)), (3, .int (f_X0_findOwn T C σ c9 k9)), (0, .ref (q 0)), (1, .int c9), (2, .int k9)] ∧ PP 0 E q σ9 H ∧ va_S (Aq q) s.heap H locs ∧ Inv T C σ9) 55 (fun ls H locs st hKp => ?_) (fun K35 => ?_)
      · obtain ⟨_, rfl, rfl, hl, hP, hS, hI⟩ := hKp
        refine lv_iload hx hb dX0_takeTask_55 (lv_at hl 0 rfl) ?_
        exact rt_WI hQ hx hb hr hlocks (Eq.subst (motive := fun z => PP 0 E q z H) (show (if (f_X0_findLoot T C σ (f_X0_coreOfCpu c9) k9) = (-1) then σ else (sS (g_X0_moveRunnable T C σ (f_X0_findLoot T C σ (f_X0_coreOfCpu c9) k9) c9) 15 (((g_X0_moveRunnable T C σ (f_X0_findLoot T C σ (f_X0_coreOfCpu c9) k9) c9).2.2 15) + 1))) = (g_X0_takeTask T C σ c9 k9) from (Eq.symm (Eq.trans (if_pos h9) (if_neg h16)))) hP) hS ⟨(Eq.symm (Eq.trans (if_pos h9) (if_neg h16))), ⟨Eq.subst (motive := fun z => Inv T C z) (show (if (f_X0_findLoot T C σ (f_X0_coreOfCpu c9) k9) = (-1) then σ else (sS (g_X0_moveRunnable T C σ (f_X0_findLoot T C σ (f_X0_coreOfCpu c9) k9) c9) 15 (((g_X0_moveRunnable T C σ (f_X0_findLoot T C σ (f_X0_coreOfCpu c9) k9) c9).2.2 15) + 1))) = (g_X0_takeTask T C σ c9 k9) from (Eq.symm (Eq.trans (if_pos h9) (if_neg h16)))) hI, Eq.subst (motive := fun z => vo z) (show (f_X0_findLoot T C σ (f_X0_coreOfCpu c9) k9) = (f_X0_takeTask T C σ c9 k9) from (Eq.symm (Eq.trans (if_pos h9) (if_neg h16)))) (show vo (f_X0_findLoot T C σ (f_X0_coreOfCpu c9) k9) from hx27_0), trivial⟩⟩ dX0_takeTask_57
      · refine lv_icmp_eq (tgt := 55) hx hb dX0_takeTask_35 (by decide) (fun h35 => ?_) (fun h35 => ?_)
        · skip
          exact K35 _ _ _ _ ⟨σ, (Eq.symm (if_pos h35)), rfl, lv_sub hl [0, 1, 2, 3, 4] rfl, hP, hS, hI⟩
        · skip
          refine lv_aload_n hx hb dX0_takeTask_38 rfl (lv_at hl 2 rfl) ?_
          refine lv_iload hx hb dX0_takeTask_39 (lv_at hl 0 rfl) ?_
          refine lv_iload_n hx hb dX0_takeTask_41 rfl (lv_at hl 3 rfl) ?_
          refine cl_WV (k_X0_moveRunnable l E q hq hT hC σ hI (f_X0_findLoot T C σ (f_X0_coreOfCpu c9) k9) c9 (vo.in hx27_0 h35) hp0) gw_X0_116 hd_X0_moveRunnable ⟨rfl, rfl⟩ S0 hK hP hS (rest := []) rfl hl.1 (Nat.le_of_ble_eq_true rfl) ⟨(Nat.le_of_ble_eq_true rfl), (Nat.le_of_ble_eq_true rfl)⟩ ⟨Nat.zero_le _, Nat.zero_le _⟩ dX0_takeTask_42 (fun H locs hP hS hex => ?_)
          obtain ⟨hI, -⟩ := hex
          refine lv_aload_n hx hb dX0_takeTask_45 rfl (lv_at hl 2 rfl) ?_
          refine lv_dup hx hb dX0_takeTask_46 rfl ?_
          refine gf_X0_142 hx hb hts hown hK hP dX0_takeTask_47 ?_
          refine lv_iconst (v := 1) hx hb dX0_takeTask_50 (by decide) ?_
          refine lv_iadd hx hb dX0_takeTask_51 ?_
          refine pf_X0_142 hx hb hts hown hK hq hP hS dX0_takeTask_52 (fun H locs hP hS => ?_)
          have hI : Inv T C (sS (g_X0_moveRunnable T C σ (f_X0_findLoot T C σ (f_X0_coreOfCpu c9) k9) c9) 15 (((g_X0_moveRunnable T C σ (f_X0_findLoot T C σ (f_X0_coreOfCpu c9) k9) c9).2.2 15) + 1)) := inv_sS (by decide) hI
          exact K35 _ _ _ _ ⟨(sS (g_X0_moveRunnable T C σ (f_X0_findLoot T C σ (f_X0_coreOfCpu c9) k9) c9) 15 (((g_X0_moveRunnable T C σ (f_X0_findLoot T C σ (f_X0_coreOfCpu c9) k9) c9).2.2 15) + 1)), (Eq.symm (if_neg h35)), rfl, lv_sub hl [0, 1, 2, 3, 4] rfl, hP, hS, hI⟩
    · skip
      refine lv_iload_n hx hb dX0_takeTask_19 rfl (lv_at hl 0 rfl) ?_
      exact rt_WI hQ hx hb hr hlocks (Eq.subst (motive := fun z => PP 0 E q z H) (show σ = (g_X0_takeTask T C σ c9 k9) from (Eq.symm (Eq.trans (if_pos h9) (if_pos h16)))) hP) hS ⟨(Eq.symm (Eq.trans (if_pos h9) (if_pos h16))), ⟨Eq.subst (motive := fun z => Inv T C z) (show σ = (g_X0_takeTask T C σ c9 k9) from (Eq.symm (Eq.trans (if_pos h9) (if_pos h16)))) hI, Eq.subst (motive := fun z => vo z) (show (f_X0_findOwn T C σ c9 k9) = (f_X0_takeTask T C σ c9 k9) from (Eq.symm (Eq.trans (if_pos h9) (if_pos h16)))) (show vo (f_X0_findOwn T C σ c9 k9) from hx3_0), trivial⟩⟩ dX0_takeTask_20
def g_X0_giveToCpu (T C : Nat) (σ : St) (c9 : Int32) (t : Int32) : St := (if t = (-1) then (sI (sI σ 8 (ix c9) t) 9 (ix c9) (vp_nar .boolean (if t = (-1) then (if (f_X0_countQueue T C (sI σ 8 (ix c9) t) c9) ≤ 0 then 0 else 1) else 0))) else (sI (sI (sI σ 8 (ix c9) t) 9 (ix c9) (vp_nar .boolean (if t = (-1) then (if (f_X0_countQueue T C (sI σ 8 (ix c9) t) c9) ≤ 0 then 0 else 1) else 0))) 3 (ix t) 1))
def rm_X0_giveToCpu : Room := { frames := 3, cells := 0, slots := 0, locals := 66 }
set_option maxHeartbeats 4000000 in
set_option maxRecDepth 100000 in
theorem k_X0_giveToCpu (l : Launch) (E : Ev) (q : Nat → Nat) (hq : Dq q) {T C : Nat} (hT : T ≤ 16) (hC : 1 ≤ C ∧ C ≤ 4) (σ : St) (hI : Inv T C σ) (c9 : Int32) (t : Int32) (hp0 : vp_in c9 8) (hp1 : vo t) : WV l 0 E q σ yX0_giveToCpu cX0_giveToCpu 3 none rm_X0_giveToCpu [.int c9, .int t] (g_X0_giveToCpu T C σ c9 t) (Inv T C (g_X0_giveToCpu T C σ c9 t) ∧ True) := by
  refine Met.ofB (by decide) (Nat.le_of_ble_eq_true rfl) (fun p e s m args below meth c ls Q B hQ hPK hl => ?_)
  obtain ⟨hx, hb, hml, hr, hlocks, hown, hts⟩ := B
  have S0 : Fx p m c cX0_giveToCpu 3 s args RX0 := ⟨hx, hb, hml, hown, hts⟩
  obtain ⟨hP, hK⟩ := hPK
  suffices KH : ∀ (H : Heap) (locs : List Loc), PP 0 E q σ H → va_S (Aq q) s.heap H locs → W p l e rm_X0_giveToCpu s m args below meth c H locs 0 0 Q (F0 m 0 ls []) from KH s.heap [] hP va_S.rf
  intro H locs hP hS
  have hl : lv_has ls 3 [(0, .ref (q 0)), (1, .int c9), (2, .int t)] := hl
  refine lv_aload_n hx hb dX0_giveToCpu_0 rfl (lv_at hl 0 rfl) ?_
  refine gf_X0_35 hx hb hts hown hK hP dX0_giveToCpu_1 ?_
  refine lv_iload_n hx hb dX0_giveToCpu_4 rfl (lv_at hl 1 rfl) ?_
  refine lv_iload_n hx hb dX0_giveToCpu_5 rfl (lv_at hl 2 rfl) ?_
  refine st_8 hx hb hK hq hP hS hp0 dX0_giveToCpu_6 (fun H locs hP hS => ?_)
  have hI : Inv T C (sI σ 8 (ix c9) t) := inv_sI (by decide) hI
  refine lv_aload_n hx hb dX0_giveToCpu_7 rfl (lv_at hl 0 rfl) ?_
  refine gf_X0_38 hx hb hts hown hK hP dX0_giveToCpu_8 ?_
  refine lv_iload_n hx hb dX0_giveToCpu_11 rfl (lv_at hl 1 rfl) ?_
  refine lv_iload_n hx hb dX0_giveToCpu_12 rfl (lv_at hl 2 rfl) ?_
  refine lv_iconst (v := -1) hx hb dX0_giveToCpu_13 (by decide) ?_
  refine cutG (fun ls H locs st => ∃ y0 : Int32, y0 = (if t = (-1) then (if (f_X0_countQueue T C (sI σ 8 (ix c9) t) c9) ≤ 0 then 0 else 1) else 0) ∧ st = [.int y0, .int c9, .ref (q 10)] ∧ lv_has ls 3 [(0, .ref (q 0)), (1, .int c9), (2, .int t)] ∧ PP 0 E q (sI σ 8 (ix c9) t) H ∧ va_S (Aq q) s.heap H locs ∧ Inv T C (sI σ 8 (ix c9) t)) 30 (fun ls H locs st hKp => ?_) (fun K14 => ?_)
  · obtain ⟨_, rfl, rfl, hl, hP, hS, hI⟩ := hKp
    refine st_9 hx hb hK hq hP hS hp0 dX0_giveToCpu_30 (fun H locs hP hS => ?_)
    have hI : Inv T C (sI (sI σ 8 (ix c9) t) 9 (ix c9) (vp_nar .boolean (if t = (-1) then (if (f_X0_countQueue T C (sI σ 8 (ix c9) t) c9) ≤ 0 then 0 else 1) else 0))) := inv_sI (by decide) hI
    refine lv_iload_n hx hb dX0_giveToCpu_31 rfl (lv_at hl 2 rfl) ?_
    refine lv_iconst (v := -1) hx hb dX0_giveToCpu_32 (by decide) ?_
    refine cutG (fun ls H locs st => ∃ σ9 : St, σ9 = (if t = (-1) then (sI (sI σ 8 (ix c9) t) 9 (ix c9) (vp_nar .boolean (if t = (-1) then (if (f_X0_countQueue T C (sI σ 8 (ix c9) t) c9) ≤ 0 then 0 else 1) else 0))) else (sI (sI (sI σ 8 (ix c9) t) 9 (ix c9) (vp_nar .boolean (if t = (-1) then (if (f_X0_countQueue T C (sI σ 8 (ix c9) t) c9) ≤ 0 then 0 else 1) else 0))) 3 (ix t) 1)) ∧ st = [] ∧ lv_has ls 3 [(0, .ref (q 0)), (1, .int c9), (2, .int t)] ∧ PP 0 E q σ9 H ∧ va_S (Aq q) s.heap H locs ∧ Inv T C σ9) 43 (fun ls H locs st hKp => ?_) (fun K33 => ?_)
    · obtain ⟨_, rfl, rfl, hl, hP, hS, hI⟩ := hKp
      exact rt_WV hQ hx hb hr hlocks (Eq.subst (motive := fun z => PP 0 E q z H) (show (if t = (-1) then (sI (sI σ 8 (ix c9) t) 9 (ix c9) (vp_nar .boolean (if t = (-1) then (if (f_X0_countQueue T C (sI σ 8 (ix c9) t) c9) ≤ 0 then 0 else 1) else 0))) else (sI (sI (sI σ 8 (ix c9) t) 9 (ix c9) (vp_nar .boolean (if t = (-1) then (if (f_X0_countQueue T C (sI σ 8 (ix c9) t) c9) ≤ 0 then 0 else 1) else 0))) 3 (ix t) 1)) = (g_X0_giveToCpu T C σ c9 t) from rfl) hP) hS ⟨Eq.subst (motive := fun z => Inv T C z) (show (if t = (-1) then (sI (sI σ 8 (ix c9) t) 9 (ix c9) (vp_nar .boolean (if t = (-1) then (if (f_X0_countQueue T C (sI σ 8 (ix c9) t) c9) ≤ 0 then 0 else 1) else 0))) else (sI (sI (sI σ 8 (ix c9) t) 9 (ix c9) (vp_nar .boolean (if t = (-1) then (if (f_X0_countQueue T C (sI σ 8 (ix c9) t) c9) ≤ 0 then 0 else 1) else 0))) 3 (ix t) 1)) = (g_X0_giveToCpu T C σ c9 t) from rfl) hI, trivial⟩ dX0_giveToCpu_43
    · refine lv_icmp_eq (tgt := 43) hx hb dX0_giveToCpu_33 (by decide) (fun h33 => ?_) (fun h33 => ?_)
      · skip
        exact K33 _ _ _ _ ⟨(sI (sI σ 8 (ix c9) t) 9 (ix c9) (vp_nar .boolean (if t = (-1) then (if (f_X0_countQueue T C (sI σ 8 (ix c9) t) c9) ≤ 0 then 0 else 1) else 0))), (Eq.symm (if_pos h33)), rfl, lv_sub hl [0, 1, 2] rfl, hP, hS, hI⟩
      · skip
        refine lv_aload_n hx hb dX0_giveToCpu_36 rfl (lv_at hl 0 rfl) ?_
        refine gf_X0_19 hx hb hts hown hK hP dX0_giveToCpu_37 ?_
        refine lv_iload_n hx hb dX0_giveToCpu_40 rfl (lv_at hl 2 rfl) ?_
        refine lv_iconst (v := 1) hx hb dX0_giveToCpu_41 (by decide) ?_
        refine st_3 hx hb hK hq hP hS (vo.in hp1 h33) dX0_giveToCpu_42 (fun H locs hP hS => ?_)
        have hI : Inv T C (sI (sI (sI σ 8 (ix c9) t) 9 (ix c9) (vp_nar .boolean (if t = (-1) then (if (f_X0_countQueue T C (sI σ 8 (ix c9) t) c9) ≤ 0 then 0 else 1) else 0))) 3 (ix t) 1) := inv_sI (by decide) hI
        exact K33 _ _ _ _ ⟨(sI (sI (sI σ 8 (ix c9) t) 9 (ix c9) (vp_nar .boolean (if t = (-1) then (if (f_X0_countQueue T C (sI σ 8 (ix c9) t) c9) ≤ 0 then 0 else 1) else 0))) 3 (ix t) 1), (Eq.symm (if_neg h33)), rfl, lv_sub hl [0, 1, 2] rfl, hP, hS, hI⟩
  · refine lv_icmp_ne (tgt := 29) hx hb dX0_giveToCpu_14 (by decide) (fun h14 => ?_) (fun h14 => ?_)
    · skip
      refine lv_iconst (v := 0) hx hb dX0_giveToCpu_29 (by decide) ?_
      exact K14 _ _ _ _ ⟨0, (Eq.symm (if_neg h14)), rfl, lv_sub hl [0, 1, 2] rfl, hP, hS, hI⟩
    · skip
      refine lv_aload_n hx hb dX0_giveToCpu_17 rfl (lv_at hl 0 rfl) ?_
      refine lv_iload_n hx hb dX0_giveToCpu_18 rfl (lv_at hl 1 rfl) ?_
      refine cl_RI (k_X0_countQueue l E q hq hT hC (sI σ 8 (ix c9) t) hI c9 ) gw_X0_127 hd_X0_countQueue ⟨rfl, rfl⟩ S0 hK hP (rest := [.int c9, .ref (q 10)]) rfl hl.1 (Nat.le_of_ble_eq_true rfl) ⟨(Nat.le_of_ble_eq_true rfl), (Nat.le_of_ble_eq_true rfl)⟩ ⟨Nat.zero_le _, Nat.zero_le _⟩ dX0_giveToCpu_19 (fun hex => ?_)
      refine lv_if_le (tgt := 29) hx hb dX0_giveToCpu_22 (by decide) (fun h22 => ?_) (fun h22 => ?_)
      · skip
        refine lv_iconst (v := 0) hx hb dX0_giveToCpu_29 (by decide) ?_
        exact K14 _ _ _ _ ⟨0, (Eq.symm (Eq.trans (if_pos h14) (if_pos h22))), rfl, lv_sub hl [0, 1, 2] rfl, hP, hS, hI⟩
      · skip
        refine lv_iconst (v := 1) hx hb dX0_giveToCpu_25 (by decide) ?_
        refine lv_goto (tgt := 30) hx hb dX0_giveToCpu_26 (by decide) ?_
        exact K14 _ _ _ _ ⟨1, (Eq.symm (Eq.trans (if_pos h14) (if_neg h22))), rfl, lv_sub hl [0, 1, 2] rfl, hP, hS, hI⟩
def F_X0_pickForCore_43 (T : Nat) (C : Nat) (σ : St) (j : Nat) : Nat → St → St := fun i_43 z => (g_X0_giveToCpu T C (if (f_X0_findLeader T C σ (nI j)) = (-1) then z else (g_X0_takeTask T C z (nI i_43) (if (f_X0_findLeader T C σ (nI j)) = (-1) then (-1) else (σ.1 2 (ix (f_X0_findLeader T C σ (nI j))))))) (nI i_43) (if (f_X0_findLeader T C σ (nI j)) = (-1) then (-1) else (f_X0_takeTask T C z (nI i_43) (if (f_X0_findLeader T C σ (nI j)) = (-1) then (-1) else (σ.1 2 (ix (f_X0_findLeader T C σ (nI j))))))))
def g_X0_pickForCore (T C : Nat) (σ : St) (j : Nat) : St := (lp (F_X0_pickForCore_43 T C σ j) 2 (2 * j) (g_X0_releaseTasks T C (sI σ 12 (ix (nI j)) (if (f_X0_findLeader T C σ (nI j)) = (-1) then (-1) else (σ.1 2 (ix (f_X0_findLeader T C σ (nI j)))))) (nI j)))
def rm_X0_pickForCore : Room := { frames := 5, cells := 0, slots := 0, locals := 113 }
set_option maxHeartbeats 4000000 in
set_option maxRecDepth 100000 in
theorem k_X0_pickForCore (l : Launch) (E : Ev) (q : Nat → Nat) (hq : Dq q) {T C : Nat} (hT : T ≤ 16) (hC : 1 ≤ C ∧ C ≤ 4) (σ : St) (hI : Inv T C σ) (j : Nat) (hp0 : j < 4) : WV l 0 E q σ yX0_pickForCore cX0_pickForCore 7 none rm_X0_pickForCore [.int (nI j)] (g_X0_pickForCore T C σ j) (Inv T C (g_X0_pickForCore T C σ j) ∧ True) := by
  refine Met.ofB (by decide) (Nat.le_of_ble_eq_true rfl) (fun p e s m args below meth c ls Q B hQ hPK hl => ?_)
  obtain ⟨hx, hb, hml, hr, hlocks, hown, hts⟩ := B
  have S0 : Fx p m c cX0_pickForCore 7 s args RX0 := ⟨hx, hb, hml, hown, hts⟩
  obtain ⟨hP, hK⟩ := hPK
  suffices KH : ∀ (H : Heap) (locs : List Loc), PP 0 E q σ H → va_S (Aq q) s.heap H locs → W p l e rm_X0_pickForCore s m args below meth c H locs 0 0 Q (F0 m 0 ls []) from KH s.heap [] hP va_S.rf
  intro H locs hP hS
  have hl : lv_has ls 7 [(0, .ref (q 0)), (1, .int (nI j))] := hl
  refine lv_aload_n hx hb dX0_pickForCore_0 rfl (lv_at hl 0 rfl) ?_
  refine lv_iload_n hx hb dX0_pickForCore_1 rfl (lv_at hl 1 rfl) ?_
  refine cl_RI (k_X0_findLeader l E q hq hT hC σ hI (nI j) ) gw_X0_123 hd_X0_findLeader ⟨rfl, rfl⟩ S0 hK hP (rest := []) rfl hl.1 (Nat.le_of_ble_eq_true rfl) ⟨(Nat.le_of_ble_eq_true rfl), (Nat.le_of_ble_eq_true rfl)⟩ ⟨Nat.zero_le _, Nat.zero_le _⟩ dX0_pickForCore_2 (fun hex => ?_)
  obtain ⟨hx2_0, -⟩ := hex
  refine lv_istore_n (lv' := [(2, .int (f_X0_findLeader T C σ (nI j))), (0, .ref (q 0)), (1, .int (nI j))]) hx hb dX0_pickForCore_5 rfl hl (by decide) rfl (fun ls hl => ?_)
  refine lv_iload_n hx hb dX0_pickForCore_6 rfl (lv_at hl 0 rfl) ?_
  refine lv_iconst (v := -1) hx hb dX0_pickForCore_7 (by decide) ?_
  refine cutG (fun ls H locs st => ∃ y0 : Int32, y0 = (if (f_X0_findLeader T C σ (nI j)) = (-1) then (-1) else (σ.1 2 (ix (f_X0_findLeader T C σ (nI j))))) ∧ st = [.int y0] ∧ lv_has ls 7 [(2, .int (f_X0_findLeader T C σ (nI j))), (0, .ref (q 0)), (1, .int (nI j))] ∧ PP 0 E q σ H ∧ va_S (Aq q) s.heap H locs ∧ Inv T C σ) 21 (fun ls H locs st hKp => ?_) (fun K8 => ?_)
  · obtain ⟨_, rfl, rfl, hl, hP, hS, hI⟩ := hKp
    refine lv_istore_n (lv' := [(3, .int (if (f_X0_findLeader T C σ (nI j)) = (-1) then (-1) else (σ.1 2 (ix (f_X0_findLeader T C σ (nI j)))))), (2, .int (f_X0_findLeader T C σ (nI j))), (0, .ref (q 0)), (1, .int (nI j))]) hx hb dX0_pickForCore_21 rfl hl (by decide) rfl (fun ls hl => ?_)
    refine lv_aload_n hx hb dX0_pickForCore_22 rfl (lv_at hl 2 rfl) ?_
    refine gf_X0_48 hx hb hts hown hK hP dX0_pickForCore_23 ?_
    refine lv_iload_n hx hb dX0_pickForCore_26 rfl (lv_at hl 3 rfl) ?_
    refine lv_iload_n hx hb dX0_pickForCore_27 rfl (lv_at hl 0 rfl) ?_
    refine st_12 hx hb hK hq hP hS (vp_in_nI (by omega) (by decide)) dX0_pickForCore_28 (fun H locs hP hS => ?_)
    have hI : Inv T C (sI σ 12 (ix (nI j)) (if (f_X0_findLeader T C σ (nI j)) = (-1) then (-1) else (σ.1 2 (ix (f_X0_findLeader T C σ (nI j)))))) := inv_sI (by decide) hI
    refine lv_aload_n hx hb dX0_pickForCore_29 rfl (lv_at hl 2 rfl) ?_
    refine lv_iload_n hx hb dX0_pickForCore_30 rfl (lv_at hl 3 rfl) ?_
    refine cl_WV (k_X0_releaseTasks l E q hq hT hC (sI σ 12 (ix (nI j)) (if (f_X0_findLeader T C σ (nI j)) = (-1) then (-1) else (σ.1 2 (ix (f_X0_findLeader T C σ (nI j)))))) hI (nI j) ) gw_X0_176 hd_X0_releaseTasks ⟨rfl, rfl⟩ S0 hK hP hS (rest := []) rfl hl.1 (Nat.le_of_ble_eq_true rfl) ⟨(Nat.le_of_ble_eq_true rfl), (Nat.le_of_ble_eq_true rfl)⟩ ⟨Nat.zero_le _, Nat.zero_le _⟩ dX0_pickForCore_31 (fun H locs hP hS hex => ?_)
    obtain ⟨hI, -⟩ := hex
    refine lv_iconst (v := 2) hx hb dX0_pickForCore_34 (by decide) ?_
    refine lv_iload_n hx hb dX0_pickForCore_35 rfl (lv_at hl 3 rfl) ?_
    refine lv_imul hx hb dX0_pickForCore_36 ?_
    rw [mul2 j]
    refine lv_istore (lv' := [(4, .int (nI (2 * j))), (3, .int (if (f_X0_findLeader T C σ (nI j)) = (-1) then (-1) else (σ.1 2 (ix (f_X0_findLeader T C σ (nI j)))))), (2, .int (f_X0_findLeader T C σ (nI j))), (0, .ref (q 0)), (1, .int (nI j))]) hx hb dX0_pickForCore_37 hl (by decide) rfl (fun ls hl => ?_)
    refine lv_iload hx hb dX0_pickForCore_39 (lv_at hl 0 rfl) ?_
    refine lv_istore (lv' := [(5, .int (nI (2 * j))), (4, .int (nI (2 * j))), (3, .int (if (f_X0_findLeader T C σ (nI j)) = (-1) then (-1) else (σ.1 2 (ix (f_X0_findLeader T C σ (nI j)))))), (2, .int (f_X0_findLeader T C σ (nI j))), (0, .ref (q 0)), (1, .int (nI j))]) hx hb dX0_pickForCore_41 hl (by decide) rfl (fun ls hl => ?_)
    have L_43 : ∀ (n_43 i_43 : Nat) (τ_43 : St) (ls : Array Slot) (H : Heap) (locs : List Loc), i_43 + n_43 = (2 * j + 2) → lp (F_X0_pickForCore_43 T C σ j) n_43 i_43 τ_43 = (lp (F_X0_pickForCore_43 T C σ j) 2 (2 * j) (g_X0_releaseTasks T C (sI σ 12 (ix (nI j)) (if (f_X0_findLeader T C σ (nI j)) = (-1) then (-1) else (σ.1 2 (ix (f_X0_findLeader T C σ (nI j)))))) (nI j))) → Inv T C τ_43 → lv_has ls 7 [(5, .int (nI i_43)), (4, .int (nI (2 * j))), (3, .int (if (f_X0_findLeader T C σ (nI j)) = (-1) then (-1) else (σ.1 2 (ix (f_X0_findLeader T C σ (nI j)))))), (2, .int (f_X0_findLeader T C σ (nI j))), (0, .ref (q 0)), (1, .int (nI j))] → PP 0 E q τ_43 H → va_S (Aq q) s.heap H locs → W p l e rm_X0_pickForCore s m args below meth c H locs 0 0 Q (F0 m 43 ls []) := by
      intro n_43
      induction n_43 with
      | zero =>
        intro i_43 τ_43 ls H locs hi_43 hres hI hl hP hS
        have hres : τ_43 = (lp (F_X0_pickForCore_43 T C σ j) 2 (2 * j) (g_X0_releaseTasks T C (sI σ 12 (ix (nI j)) (if (f_X0_findLeader T C σ (nI j)) = (-1) then (-1) else (σ.1 2 (ix (f_X0_findLeader T C σ (nI j)))))) (nI j))) := hres
        subst hres
        refine lv_iload hx hb dX0_pickForCore_43 (lv_at hl 0 rfl) ?_
        refine lv_iload hx hb dX0_pickForCore_45 (lv_at hl 1 rfl) ?_
        refine lv_iconst (v := 2) hx hb dX0_pickForCore_47 (by decide) ?_
        refine lv_iadd hx hb dX0_pickForCore_48 ?_
        refine lv_icmp_ge (tgt := 84) hx hb dX0_pickForCore_49 (by decide) (fun _ => ?_) (fun h => absurd (lp_out (nI_p2 (2 * j)) (by omega) hi_43) h)
        have hl := lv_sub (l' := [(4, .int (nI (2 * j))), (3, .int (if (f_X0_findLeader T C σ (nI j)) = (-1) then (-1) else (σ.1 2 (ix (f_X0_findLeader T C σ (nI j)))))), (2, .int (f_X0_findLeader T C σ (nI j))), (0, .ref (q 0)), (1, .int (nI j))]) hl [1, 2, 3, 4, 5] rfl
        exact rt_WV hQ hx hb hr hlocks (Eq.subst (motive := fun z => PP 0 E q z H) (show (lp (F_X0_pickForCore_43 T C σ j) 2 (2 * j) (g_X0_releaseTasks T C (sI σ 12 (ix (nI j)) (if (f_X0_findLeader T C σ (nI j)) = (-1) then (-1) else (σ.1 2 (ix (f_X0_findLeader T C σ (nI j)))))) (nI j))) = (g_X0_pickForCore T C σ j) from rfl) hP) hS ⟨Eq.subst (motive := fun z => Inv T C z) (show (lp (F_X0_pickForCore_43 T C σ j) 2 (2 * j) (g_X0_releaseTasks T C (sI σ 12 (ix (nI j)) (if (f_X0_findLeader T C σ (nI j)) = (-1) then (-1) else (σ.1 2 (ix (f_X0_findLeader T C σ (nI j)))))) (nI j))) = (g_X0_pickForCore T C σ j) from rfl) hI, trivial⟩ dX0_pickForCore_84
      | succ n_43 ih_43 =>
        intro i_43 τ_43 ls H locs hi_43 hres hI hl hP hS
        refine lv_iload hx hb dX0_pickForCore_43 (lv_at hl 0 rfl) ?_
        refine lv_iload hx hb dX0_pickForCore_45 (lv_at hl 1 rfl) ?_
        refine lv_iconst (v := 2) hx hb dX0_pickForCore_47 (by decide) ?_
        refine lv_iadd hx hb dX0_pickForCore_48 ?_
        refine lv_icmp_ge (tgt := 84) hx hb dX0_pickForCore_49 (by decide) (fun h => absurd h (lp_in (nI_p2 (2 * j)) (by omega) hi_43)) (fun _ => ?_)
        refine lv_iload_n hx hb dX0_pickForCore_52 rfl (lv_at hl 3 rfl) ?_
        refine lv_iconst (v := -1) hx hb dX0_pickForCore_53 (by decide) ?_
        refine cutG (fun ls H locs st => ∃ y0 : Int32, ∃ σ9 : St, y0 = (if (f_X0_findLeader T C σ (nI j)) = (-1) then (-1) else (f_X0_takeTask T C τ_43 (nI i_43) (if (f_X0_findLeader T C σ (nI j)) = (-1) then (-1) else (σ.1 2 (ix (f_X0_findLeader T C σ (nI j))))))) ∧ σ9 = (if (f_X0_findLeader T C σ (nI j)) = (-1) then τ_43 else (g_X0_takeTask T C τ_43 (nI i_43) (if (f_X0_findLeader T C σ (nI j)) = (-1) then (-1) else (σ.1 2 (ix (f_X0_findLeader T C σ (nI j))))))) ∧ st = [.int y0] ∧ lv_has ls 7 [(5, .int (nI i_43)), (4, .int (nI (2 * j))), (3, .int (if (f_X0_findLeader T C σ (nI j)) = (-1) then (-1) else (σ.1 2 (ix (f_X0_findLeader T C σ (nI j)))))), (2, .int (f_X0_findLeader T C σ (nI j))), (0, .ref (q 0)), (1, .int (nI j))] ∧ PP 0 E q σ9 H ∧ va_S (Aq q) s.heap H locs ∧ Inv T C σ9 ∧ vo y0) 68 (fun ls H locs st hKp => ?_) (fun K54 => ?_)
        · obtain ⟨_, _, rfl, rfl, rfl, hl, hP, hS, hI, hv54_y0⟩ := hKp
          refine lv_istore (lv' := [(6, .int (if (f_X0_findLeader T C σ (nI j)) = (-1) then (-1) else (f_X0_takeTask T C τ_43 (nI i_43) (if (f_X0_findLeader T C σ (nI j)) = (-1) then (-1) else (σ.1 2 (ix (f_X0_findLeader T C σ (nI j)))))))), (5, .int (nI i_43)), (4, .int (nI (2 * j))), (3, .int (if (f_X0_findLeader T C σ (nI j)) = (-1) then (-1) else (σ.1 2 (ix (f_X0_findLeader T C σ (nI j)))))), (2, .int (f_X0_findLeader T C σ (nI j))), (0, .ref (q 0)), (1, .int (nI j))]) hx hb dX0_pickForCore_68 hl (by decide) rfl (fun ls hl => ?_)
          refine lv_aload_n hx hb dX0_pickForCore_70 rfl (lv_at hl 5 rfl) ?_
          refine lv_iload hx hb dX0_pickForCore_71 (lv_at hl 1 rfl) ?_
          refine lv_iload hx hb dX0_pickForCore_73 (lv_at hl 0 rfl) ?_
          refine cl_WV (k_X0_giveToCpu l E q hq hT hC (if (f_X0_findLeader T C σ (nI j)) = (-1) then τ_43 else (g_X0_takeTask T C τ_43 (nI i_43) (if (f_X0_findLeader T C σ (nI j)) = (-1) then (-1) else (σ.1 2 (ix (f_X0_findLeader T C σ (nI j))))))) hI (nI i_43) (if (f_X0_findLeader T C σ (nI j)) = (-1) then (-1) else (f_X0_takeTask T C τ_43 (nI i_43) (if (f_X0_findLeader T C σ (nI j)) = (-1) then (-1) else (σ.1 2 (ix (f_X0_findLeader T C σ (nI j))))))) (vp_in_nI (by omega) (by decide)) hv54_y0) gw_X0_182 hd_X0_giveToCpu ⟨rfl, rfl⟩ S0 hK hP hS (rest := []) rfl hl.1 (Nat.le_of_ble_eq_true rfl) ⟨(Nat.le_of_ble_eq_true rfl), (Nat.le_of_ble_eq_true rfl)⟩ ⟨Nat.zero_le _, Nat.zero_le _⟩ dX0_pickForCore_75 (fun H locs hP hS hex => ?_)
          obtain ⟨hI, -⟩ := hex
          refine lv_iinc (v := (nI (i_43 + 1))) (lv' := [(5, .int (nI (i_43 + 1))), (6, .int (if (f_X0_findLeader T C σ (nI j)) = (-1) then (-1) else (f_X0_takeTask T C τ_43 (nI i_43) (if (f_X0_findLeader T C σ (nI j)) = (-1) then (-1) else (σ.1 2 (ix (f_X0_findLeader T C σ (nI j)))))))), (4, .int (nI (2 * j))), (3, .int (if (f_X0_findLeader T C σ (nI j)) = (-1) then (-1) else (σ.1 2 (ix (f_X0_findLeader T C σ (nI j)))))), (2, .int (f_X0_findLeader T C σ (nI j))), (0, .ref (q 0)), (1, .int (nI j))]) hx hb dX0_pickForCore_78 hl (k := 1) rfl (nI_1 _) (by decide) rfl (fun ls hl => ?_)
          refine lv_goto (tgt := 43) hx hb dX0_pickForCore_81 (by decide) ?_
          exact ih_43 (i_43 + 1) (g_X0_giveToCpu T C (if (f_X0_findLeader T C σ (nI j)) = (-1) then τ_43 else (g_X0_takeTask T C τ_43 (nI i_43) (if (f_X0_findLeader T C σ (nI j)) = (-1) then (-1) else (σ.1 2 (ix (f_X0_findLeader T C σ (nI j))))))) (nI i_43) (if (f_X0_findLeader T C σ (nI j)) = (-1) then (-1) else (f_X0_takeTask T C τ_43 (nI i_43) (if (f_X0_findLeader T C σ (nI j)) = (-1) then (-1) else (σ.1 2 (ix (f_X0_findLeader T C σ (nI j)))))))) ls H locs (by omega) hres (Eq.subst (motive := fun z => Inv T C z) (show (g_X0_giveToCpu T C (if (f_X0_findLeader T C σ (nI j)) = (-1) then τ_43 else (g_X0_takeTask T C τ_43 (nI i_43) (if (f_X0_findLeader T C σ (nI j)) = (-1) then (-1) else (σ.1 2 (ix (f_X0_findLeader T C σ (nI j))))))) (nI i_43) (if (f_X0_findLeader T C σ (nI j)) = (-1) then (-1) else (f_X0_takeTask T C τ_43 (nI i_43) (if (f_X0_findLeader T C σ (nI j)) = (-1) then (-1) else (σ.1 2 (ix (f_X0_findLeader T C σ (nI j)))))))) = (g_X0_giveToCpu T C (if (f_X0_findLeader T C σ (nI j)) = (-1) then τ_43 else (g_X0_takeTask T C τ_43 (nI i_43) (if (f_X0_findLeader T C σ (nI j)) = (-1) then (-1) else (σ.1 2 (ix (f_X0_findLeader T C σ (nI j))))))) (nI i_43) (if (f_X0_findLeader T C σ (nI j)) = (-1) then (-1) else (f_X0_takeTask T C τ_43 (nI i_43) (if (f_X0_findLeader T C σ (nI j)) = (-1) then (-1) else (σ.1 2 (ix (f_X0_findLeader T C σ (nI j)))))))) from rfl) hI) (lv_sub (l' := [(5, .int (nI (i_43 + 1))), (4, .int (nI (2 * j))), (3, .int (if (f_X0_findLeader T C σ (nI j)) = (-1) then (-1) else (σ.1 2 (ix (f_X0_findLeader T C σ (nI j)))))), (2, .int (f_X0_findLeader T C σ (nI j))), (0, .ref (q 0)), (1, .int (nI j))]) hl [0, 2, 3, 4, 5, 6] rfl) (Eq.subst (motive := fun z => PP 0 E q z H) (show (g_X0_giveToCpu T C (if (f_X0_findLeader T C σ (nI j)) = (-1) then τ_43 else (g_X0_takeTask T C τ_43 (nI i_43) (if (f_X0_findLeader T C σ (nI j)) = (-1) then (-1) else (σ.1 2 (ix (f_X0_findLeader T C σ (nI j))))))) (nI i_43) (if (f_X0_findLeader T C σ (nI j)) = (-1) then (-1) else (f_X0_takeTask T C τ_43 (nI i_43) (if (f_X0_findLeader T C σ (nI j)) = (-1) then (-1) else (σ.1 2 (ix (f_X0_findLeader T C σ (nI j)))))))) = (g_X0_giveToCpu T C (if (f_X0_findLeader T C σ (nI j)) = (-1) then τ_43 else (g_X0_takeTask T C τ_43 (nI i_43) (if (f_X0_findLeader T C σ (nI j)) = (-1) then (-1) else (σ.1 2 (ix (f_X0_findLeader T C σ (nI j))))))) (nI i_43) (if (f_X0_findLeader T C σ (nI j)) = (-1) then (-1) else (f_X0_takeTask T C τ_43 (nI i_43) (if (f_X0_findLeader T C σ (nI j)) = (-1) then (-1) else (σ.1 2 (ix (f_X0_findLeader T C σ (nI j)))))))) from rfl) hP) hS
        · refine lv_icmp_ne (tgt := 61) hx hb dX0_pickForCore_54 (by decide) (fun h54 => ?_) (fun h54 => ?_)
          · skip
            refine lv_aload_n hx hb dX0_pickForCore_61 rfl (lv_at hl 4 rfl) ?_
            refine lv_iload hx hb dX0_pickForCore_62 (lv_at hl 0 rfl) ?_
            refine lv_iload_n hx hb dX0_pickForCore_64 rfl (lv_at hl 2 rfl) ?_
            refine cl_WI (k_X0_takeTask l E q hq hT hC τ_43 hI (nI i_43) (if (f_X0_findLeader T C σ (nI j)) = (-1) then (-1) else (σ.1 2 (ix (f_X0_findLeader T C σ (nI j))))) (vp_in_nI (by omega) (by decide))) gw_X0_179 hd_X0_takeTask ⟨rfl, rfl⟩ S0 hK hP hS (rest := []) rfl hl.1 (Nat.le_of_ble_eq_true rfl) ⟨(Nat.le_of_ble_eq_true rfl), (Nat.le_of_ble_eq_true rfl)⟩ ⟨Nat.zero_le _, Nat.zero_le _⟩ dX0_pickForCore_65 (fun H locs hP hS hex => ?_)
            obtain ⟨hI, hx65_0, -⟩ := hex
            exact K54 _ _ _ _ ⟨(f_X0_takeTask T C τ_43 (nI i_43) (if (f_X0_findLeader T C σ (nI j)) = (-1) then (-1) else (σ.1 2 (ix (f_X0_findLeader T C σ (nI j)))))), (g_X0_takeTask T C τ_43 (nI i_43) (if (f_X0_findLeader T C σ (nI j)) = (-1) then (-1) else (σ.1 2 (ix (f_X0_findLeader T C σ (nI j)))))), (Eq.symm (if_neg h54)), (Eq.symm (if_neg h54)), rfl, lv_sub hl [0, 1, 2, 3, 4, 5] rfl, hP, hS, hI, hx65_0⟩
          · skip
            refine lv_iconst (v := -1) hx hb dX0_pickForCore_57 (by decide) ?_
            refine lv_goto (tgt := 68) hx hb dX0_pickForCore_58 (by decide) ?_
            exact K54 _ _ _ _ ⟨(-1), τ_43, (Eq.symm (if_pos h54)), (Eq.symm (if_pos h54)), rfl, lv_sub hl [0, 1, 2, 3, 4, 5] rfl, hP, hS, hI, vo_1⟩
    exact L_43 2 (2 * j) (g_X0_releaseTasks T C (sI σ 12 (ix (nI j)) (if (f_X0_findLeader T C σ (nI j)) = (-1) then (-1) else (σ.1 2 (ix (f_X0_findLeader T C σ (nI j)))))) (nI j)) ls H locs rfl rfl hI (lv_sub hl [0, 1, 2, 3, 4, 5] rfl) hP hS
  · refine lv_icmp_ne (tgt := 15) hx hb dX0_pickForCore_8 (by decide) (fun h8 => ?_) (fun h8 => ?_)
    · skip
      refine lv_aload_n hx hb dX0_pickForCore_15 rfl (lv_at hl 1 rfl) ?_
      refine gf_X0_16 hx hb hts hown hK hP dX0_pickForCore_16 ?_
      refine lv_iload_n hx hb dX0_pickForCore_19 rfl (lv_at hl 0 rfl) ?_
      refine ld_2 hx hb hK hP (vo.in hx2_0 h8) dX0_pickForCore_20 ?_
      exact K8 _ _ _ _ ⟨(σ.1 2 (ix (f_X0_findLeader T C σ (nI j)))), (Eq.symm (if_neg h8)), rfl, lv_sub hl [0, 1, 2] rfl, hP, hS, hI⟩
    · skip
      refine lv_iconst (v := -1) hx hb dX0_pickForCore_11 (by decide) ?_
      refine lv_goto (tgt := 21) hx hb dX0_pickForCore_12 (by decide) ?_
      exact K8 _ _ _ _ ⟨(-1), (Eq.symm (if_pos h8)), rfl, lv_sub hl [0, 1, 2] rfl, hP, hS, hI⟩
def F_X0_chargeTasks_4 : Nat → (Int32 × St) → (Int32 × St) := fun i_4 z => ((if ((z.2).1 3 (ix (nI i_4))) = 1 then ((z.1) + 1) else (z.1)), (if ((z.2).1 3 (ix (nI i_4))) = 1 then (sJ (sI (z.2) 5 (ix (nI i_4)) (((z.2).1 5 (ix (nI i_4))) + 1)) 4 (ix (nI i_4)) (((sI (z.2) 5 (ix (nI i_4)) (((z.2).1 5 (ix (nI i_4))) + 1)).2.1 4 (ix (nI i_4))) + (Int32.toInt64 (f_X0_costOfTick ((sI (z.2) 5 (ix (nI i_4)) (((z.2).1 5 (ix (nI i_4))) + 1)).1 1 (ix (nI i_4))))))) else (if ((z.2).1 3 (ix (nI i_4))) = 0 then (sI (z.2) 6 (ix (nI i_4)) (((z.2).1 6 (ix (nI i_4))) + 1)) else (z.2))))
def f_X0_chargeTasks (T C : Nat) (σ : St) : Int32 := ((lp F_X0_chargeTasks_4 T 0 (0, σ)).1)
def g_X0_chargeTasks (T C : Nat) (σ : St) : St := ((lp F_X0_chargeTasks_4 T 0 (0, σ)).2)
def rm_X0_chargeTasks : Room := { frames := 1, cells := 0, slots := 0, locals := 20 }
set_option maxHeartbeats 4000000 in
set_option maxRecDepth 100000 in
theorem k_X0_chargeTasks (l : Launch) (E : Ev) (q : Nat → Nat) (hq : Dq q) {T C : Nat} (hT : T ≤ 16) (hC : 1 ≤ C ∧ C ≤ 4) (σ : St) (hI : Inv T C σ) : WI l 0 E q σ yX0_chargeTasks cX0_chargeTasks 3 (some .int) rm_X0_chargeTasks [] (f_X0_chargeTasks T C σ) (g_X0_chargeTasks T C σ) (Inv T C (g_X0_chargeTasks T C σ) ∧ True) := by
  refine Met.ofB (by decide) (Nat.le_of_ble_eq_true rfl) (fun p e s m args below meth c ls Q B hQ hPK hl => ?_)
  obtain ⟨hx, hb, hml, hr, hlocks, hown, hts⟩ := B
  have S0 : Fx p m c cX0_chargeTasks 3 s args RX0 := ⟨hx, hb, hml, hown, hts⟩
  obtain ⟨hP, hK⟩ := hPK
  suffices KH : ∀ (H : Heap) (locs : List Loc), PP 0 E q σ H → va_S (Aq q) s.heap H locs → W p l e rm_X0_chargeTasks s m args below meth c H locs 0 0 Q (F0 m 0 ls []) from KH s.heap [] hP va_S.rf
  intro H locs hP hS
  have hl : lv_has ls 3 [(0, .ref (q 0))] := hl
  refine lv_iconst (v := 0) hx hb dX0_chargeTasks_0 (by decide) ?_
  refine lv_istore_n (lv' := [(1, .int 0), (0, .ref (q 0))]) hx hb dX0_chargeTasks_1 rfl hl (by decide) rfl (fun ls hl => ?_)
  refine lv_iconst (v := 0) hx hb dX0_chargeTasks_2 (by decide) ?_
  refine lv_istore_n (lv' := [(2, .int 0), (1, .int 0), (0, .ref (q 0))]) hx hb dX0_chargeTasks_3 rfl hl (by decide) rfl (fun ls hl => ?_)
  have L_4 : ∀ (n_4 i_4 : Nat) (a1_4 : Int32) (τ_4 : St) (ls : Array Slot) (H : Heap) (locs : List Loc), i_4 + n_4 = T → lp F_X0_chargeTasks_4 n_4 i_4 (a1_4, τ_4) = (lp F_X0_chargeTasks_4 T 0 (0, σ)) → Inv T C τ_4 → lv_has ls 3 [(2, .int (nI i_4)), (1, .int a1_4), (0, .ref (q 0))] → PP 0 E q τ_4 H → va_S (Aq q) s.heap H locs → W p l e rm_X0_chargeTasks s m args below meth c H locs 0 0 Q (F0 m 4 ls []) := by
    intro n_4
    induction n_4 with
    | zero =>
      intro i_4 a1_4 τ_4 ls H locs hi_4 hres hI hl hP hS
      have hres : (a1_4, τ_4) = (lp F_X0_chargeTasks_4 T 0 (0, σ)) := hres
      have hr0 : a1_4 = ((lp F_X0_chargeTasks_4 T 0 (0, σ)).1) := (congrArg Prod.fst hres)
      have hr1 : τ_4 = ((lp F_X0_chargeTasks_4 T 0 (0, σ)).2) := (congrArg Prod.snd hres)
      clear hres
      subst hr0
      subst hr1
      refine lv_iload_n hx hb dX0_chargeTasks_4 rfl (lv_at hl 0 rfl) ?_
      refine lv_aload_n hx hb dX0_chargeTasks_5 rfl (lv_at hl 2 rfl) ?_
      refine gf_X0_85 hx hb hts hown hK hP dX0_chargeTasks_6 ?_
      refine lv_icmp_ge (tgt := 82) hx hb dX0_chargeTasks_9 (by decide) (fun _ => ?_) (fun h => absurd (lp_out hI.2.1 (by omega) hi_4) h)
      have hl := lv_sub (l' := [(1, .int ((lp F_X0_chargeTasks_4 T 0 (0, σ)).1)), (0, .ref (q 0))]) hl [1, 2] rfl
      refine lv_iload_n hx hb dX0_chargeTasks_82 rfl (lv_at hl 0 rfl) ?_
      exact rt_WI hQ hx hb hr hlocks (Eq.subst (motive := fun z => PP 0 E q z H) (show ((lp F_X0_chargeTasks_4 T 0 (0, σ)).2) = (g_X0_chargeTasks T C σ) from rfl) hP) hS ⟨rfl, ⟨Eq.subst (motive := fun z => Inv T C z) (show ((lp F_X0_chargeTasks_4 T 0 (0, σ)).2) = (g_X0_chargeTasks T C σ) from rfl) hI, trivial⟩⟩ dX0_chargeTasks_83
    | succ n_4 ih_4 =>
      intro i_4 a1_4 τ_4 ls H locs hi_4 hres hI hl hP hS
      refine lv_iload_n hx hb dX0_chargeTasks_4 rfl (lv_at hl 0 rfl) ?_
      refine lv_aload_n hx hb dX0_chargeTasks_5 rfl (lv_at hl 2 rfl) ?_
      refine gf_X0_85 hx hb hts hown hK hP dX0_chargeTasks_6 ?_
      refine lv_icmp_ge (tgt := 82) hx hb dX0_chargeTasks_9 (by decide) (fun h => absurd h (lp_in hI.2.1 (by omega) hi_4)) (fun _ => ?_)
      refine lv_aload_n hx hb dX0_chargeTasks_12 rfl (lv_at hl 2 rfl) ?_
      refine gf_X0_19 hx hb hts hown hK hP dX0_chargeTasks_13 ?_
      refine lv_iload_n hx hb dX0_chargeTasks_16 rfl (lv_at hl 0 rfl) ?_
      refine ld_3 hx hb hK hP (vp_in_nI (by omega) (by decide)) dX0_chargeTasks_17 ?_
      refine lv_iconst (v := 1) hx hb dX0_chargeTasks_18 (by decide) ?_
      refine cutG (fun ls H locs st => ∃ x1 : Int32, ∃ σ9 : St, x1 = (if (τ_4.1 3 (ix (nI i_4))) = 1 then (a1_4 + 1) else a1_4) ∧ σ9 = (if (τ_4.1 3 (ix (nI i_4))) = 1 then (sJ (sI τ_4 5 (ix (nI i_4)) ((τ_4.1 5 (ix (nI i_4))) + 1)) 4 (ix (nI i_4)) (((sI τ_4 5 (ix (nI i_4)) ((τ_4.1 5 (ix (nI i_4))) + 1)).2.1 4 (ix (nI i_4))) + (Int32.toInt64 (f_X0_costOfTick ((sI τ_4 5 (ix (nI i_4)) ((τ_4.1 5 (ix (nI i_4))) + 1)).1 1 (ix (nI i_4))))))) else (if (τ_4.1 3 (ix (nI i_4))) = 0 then (sI τ_4 6 (ix (nI i_4)) ((τ_4.1 6 (ix (nI i_4))) + 1)) else τ_4)) ∧ st = [] ∧ lv_has ls 3 [(1, .int x1), (2, .int (nI i_4)), (0, .ref (q 0))] ∧ PP 0 E q σ9 H ∧ va_S (Aq q) s.heap H locs ∧ Inv T C σ9) 76 (fun ls H locs st hKp => ?_) (fun K19 => ?_)
      · obtain ⟨_, _, rfl, rfl, rfl, hl, hP, hS, hI⟩ := hKp
        refine lv_iinc (v := (nI (i_4 + 1))) (lv' := [(2, .int (nI (i_4 + 1))), (1, .int (if (τ_4.1 3 (ix (nI i_4))) = 1 then (a1_4 + 1) else a1_4)), (0, .ref (q 0))]) hx hb dX0_chargeTasks_76 hl (k := 1) rfl (nI_1 _) (by decide) rfl (fun ls hl => ?_)
        refine lv_goto (tgt := 4) hx hb dX0_chargeTasks_79 (by decide) ?_
        exact ih_4 (i_4 + 1) (if (τ_4.1 3 (ix (nI i_4))) = 1 then (a1_4 + 1) else a1_4) (if (τ_4.1 3 (ix (nI i_4))) = 1 then (sJ (sI τ_4 5 (ix (nI i_4)) ((τ_4.1 5 (ix (nI i_4))) + 1)) 4 (ix (nI i_4)) (((sI τ_4 5 (ix (nI i_4)) ((τ_4.1 5 (ix (nI i_4))) + 1)).2.1 4 (ix (nI i_4))) + (Int32.toInt64 (f_X0_costOfTick ((sI τ_4 5 (ix (nI i_4)) ((τ_4.1 5 (ix (nI i_4))) + 1)).1 1 (ix (nI i_4))))))) else (if (τ_4.1 3 (ix (nI i_4))) = 0 then (sI τ_4 6 (ix (nI i_4)) ((τ_4.1 6 (ix (nI i_4))) + 1)) else τ_4)) ls H locs (by omega) hres (Eq.subst (motive := fun z => Inv T C z) (show (if (τ_4.1 3 (ix (nI i_4))) = 1 then (sJ (sI τ_4 5 (ix (nI i_4)) ((τ_4.1 5 (ix (nI i_4))) + 1)) 4 (ix (nI i_4)) (((sI τ_4 5 (ix (nI i_4)) ((τ_4.1 5 (ix (nI i_4))) + 1)).2.1 4 (ix (nI i_4))) + (Int32.toInt64 (f_X0_costOfTick ((sI τ_4 5 (ix (nI i_4)) ((τ_4.1 5 (ix (nI i_4))) + 1)).1 1 (ix (nI i_4))))))) else (if (τ_4.1 3 (ix (nI i_4))) = 0 then (sI τ_4 6 (ix (nI i_4)) ((τ_4.1 6 (ix (nI i_4))) + 1)) else τ_4)) = (if (τ_4.1 3 (ix (nI i_4))) = 1 then (sJ (sI τ_4 5 (ix (nI i_4)) ((τ_4.1 5 (ix (nI i_4))) + 1)) 4 (ix (nI i_4)) (((sI τ_4 5 (ix (nI i_4)) ((τ_4.1 5 (ix (nI i_4))) + 1)).2.1 4 (ix (nI i_4))) + (Int32.toInt64 (f_X0_costOfTick ((sI τ_4 5 (ix (nI i_4)) ((τ_4.1 5 (ix (nI i_4))) + 1)).1 1 (ix (nI i_4))))))) else (if (τ_4.1 3 (ix (nI i_4))) = 0 then (sI τ_4 6 (ix (nI i_4)) ((τ_4.1 6 (ix (nI i_4))) + 1)) else τ_4)) from rfl) hI) (lv_sub (l' := [(2, .int (nI (i_4 + 1))), (1, .int (if (τ_4.1 3 (ix (nI i_4))) = 1 then (a1_4 + 1) else a1_4)), (0, .ref (q 0))]) hl [0, 1, 2] rfl) (Eq.subst (motive := fun z => PP 0 E q z H) (show (if (τ_4.1 3 (ix (nI i_4))) = 1 then (sJ (sI τ_4 5 (ix (nI i_4)) ((τ_4.1 5 (ix (nI i_4))) + 1)) 4 (ix (nI i_4)) (((sI τ_4 5 (ix (nI i_4)) ((τ_4.1 5 (ix (nI i_4))) + 1)).2.1 4 (ix (nI i_4))) + (Int32.toInt64 (f_X0_costOfTick ((sI τ_4 5 (ix (nI i_4)) ((τ_4.1 5 (ix (nI i_4))) + 1)).1 1 (ix (nI i_4))))))) else (if (τ_4.1 3 (ix (nI i_4))) = 0 then (sI τ_4 6 (ix (nI i_4)) ((τ_4.1 6 (ix (nI i_4))) + 1)) else τ_4)) = (if (τ_4.1 3 (ix (nI i_4))) = 1 then (sJ (sI τ_4 5 (ix (nI i_4)) ((τ_4.1 5 (ix (nI i_4))) + 1)) 4 (ix (nI i_4)) (((sI τ_4 5 (ix (nI i_4)) ((τ_4.1 5 (ix (nI i_4))) + 1)).2.1 4 (ix (nI i_4))) + (Int32.toInt64 (f_X0_costOfTick ((sI τ_4 5 (ix (nI i_4)) ((τ_4.1 5 (ix (nI i_4))) + 1)).1 1 (ix (nI i_4))))))) else (if (τ_4.1 3 (ix (nI i_4))) = 0 then (sI τ_4 6 (ix (nI i_4)) ((τ_4.1 6 (ix (nI i_4))) + 1)) else τ_4)) from rfl) hP) hS
      · refine lv_icmp_ne (tgt := 57) hx hb dX0_chargeTasks_19 (by decide) (fun h19 => ?_) (fun h19 => ?_)
        · skip
          refine lv_aload_n hx hb dX0_chargeTasks_57 rfl (lv_at hl 2 rfl) ?_
          refine gf_X0_19 hx hb hts hown hK hP dX0_chargeTasks_58 ?_
          refine lv_iload_n hx hb dX0_chargeTasks_61 rfl (lv_at hl 0 rfl) ?_
          refine ld_3 hx hb hK hP (vp_in_nI (by omega) (by decide)) dX0_chargeTasks_62 ?_
          refine lv_if_ne (tgt := 76) hx hb dX0_chargeTasks_63 (by decide) (fun h63 => ?_) (fun h63 => ?_)
          · skip
            exact K19 _ _ _ _ ⟨a1_4, τ_4, (Eq.symm (if_neg h19)), (Eq.symm (Eq.trans (if_neg h19) (if_neg h63))), rfl, lv_sub hl [1, 0, 2] rfl, hP, hS, hI⟩
          · skip
            refine lv_aload_n hx hb dX0_chargeTasks_66 rfl (lv_at hl 2 rfl) ?_
            refine gf_X0_29 hx hb hts hown hK hP dX0_chargeTasks_67 ?_
            refine lv_iload_n hx hb dX0_chargeTasks_70 rfl (lv_at hl 0 rfl) ?_
            refine lv_dup2_11 hx hb dX0_chargeTasks_71 rfl rfl ?_
            refine ld_6 hx hb hK hP (vp_in_nI (by omega) (by decide)) dX0_chargeTasks_72 ?_
            refine lv_iconst (v := 1) hx hb dX0_chargeTasks_73 (by decide) ?_
            refine lv_iadd hx hb dX0_chargeTasks_74 ?_
            refine st_6 hx hb hK hq hP hS (vp_in_nI (by omega) (by decide)) dX0_chargeTasks_75 (fun H locs hP hS => ?_)
            have hI : Inv T C (sI τ_4 6 (ix (nI i_4)) ((τ_4.1 6 (ix (nI i_4))) + 1)) := inv_sI (by decide) hI
            exact K19 _ _ _ _ ⟨a1_4, (sI τ_4 6 (ix (nI i_4)) ((τ_4.1 6 (ix (nI i_4))) + 1)), (Eq.symm (if_neg h19)), (Eq.symm (Eq.trans (if_neg h19) (if_pos h63))), rfl, lv_sub hl [1, 0, 2] rfl, hP, hS, hI⟩
        · skip
          refine lv_aload_n hx hb dX0_chargeTasks_22 rfl (lv_at hl 2 rfl) ?_
          refine gf_X0_26 hx hb hts hown hK hP dX0_chargeTasks_23 ?_
          refine lv_iload_n hx hb dX0_chargeTasks_26 rfl (lv_at hl 0 rfl) ?_
          refine lv_dup2_11 hx hb dX0_chargeTasks_27 rfl rfl ?_
          refine ld_5 hx hb hK hP (vp_in_nI (by omega) (by decide)) dX0_chargeTasks_28 ?_
          refine lv_iconst (v := 1) hx hb dX0_chargeTasks_29 (by decide) ?_
          refine lv_iadd hx hb dX0_chargeTasks_30 ?_
          refine st_5 hx hb hK hq hP hS (vp_in_nI (by omega) (by decide)) dX0_chargeTasks_31 (fun H locs hP hS => ?_)
          have hI : Inv T C (sI τ_4 5 (ix (nI i_4)) ((τ_4.1 5 (ix (nI i_4))) + 1)) := inv_sI (by decide) hI
          refine lv_aload_n hx hb dX0_chargeTasks_32 rfl (lv_at hl 2 rfl) ?_
          refine gf_X0_22 hx hb hts hown hK hP dX0_chargeTasks_33 ?_
          refine lv_iload_n hx hb dX0_chargeTasks_36 rfl (lv_at hl 0 rfl) ?_
          refine lv_dup2_11 hx hb dX0_chargeTasks_37 rfl rfl ?_
          refine ld_4 hx hb hK hP (vp_in_nI (by omega) (by decide)) dX0_chargeTasks_38 ?_
          refine lv_aload_n hx hb dX0_chargeTasks_39 rfl (lv_at hl 2 rfl) ?_
          refine gf_X0_13 hx hb hts hown hK hP dX0_chargeTasks_40 ?_
          refine lv_iload_n hx hb dX0_chargeTasks_43 rfl (lv_at hl 0 rfl) ?_
          refine ld_1 hx hb hK hP (vp_in_nI (by omega) (by decide)) dX0_chargeTasks_44 ?_
          refine cl_NI (k_X0_costOfTick l ((sI τ_4 5 (ix (nI i_4)) ((τ_4.1 5 (ix (nI i_4))) + 1)).1 1 (ix (nI i_4)))) gw_X0_210 hd_X0_costOfTick ⟨rfl, rfl⟩ S0 (rest := [.long ((sI τ_4 5 (ix (nI i_4)) ((τ_4.1 5 (ix (nI i_4))) + 1)).2.1 4 (ix (nI i_4))), .int (nI i_4), .ref (q 5)]) rfl hl.1 (Nat.le_of_ble_eq_true rfl) ⟨(Nat.le_of_ble_eq_true rfl), (Nat.le_of_ble_eq_true rfl)⟩ ⟨Nat.zero_le _, Nat.zero_le _⟩ dX0_chargeTasks_45 ?_
          refine lv_i2l (v := Int32.toInt64 (f_X0_costOfTick ((sI τ_4 5 (ix (nI i_4)) ((τ_4.1 5 (ix (nI i_4))) + 1)).1 1 (ix (nI i_4))))) hx hb dX0_chargeTasks_48 rfl ?_
          refine lv_ladd hx hb dX0_chargeTasks_49 ?_
          refine st_4 hx hb hK hq hP hS (vp_in_nI (by omega) (by decide)) dX0_chargeTasks_50 (fun H locs hP hS => ?_)
          have hI : Inv T C (sJ (sI τ_4 5 (ix (nI i_4)) ((τ_4.1 5 (ix (nI i_4))) + 1)) 4 (ix (nI i_4)) (((sI τ_4 5 (ix (nI i_4)) ((τ_4.1 5 (ix (nI i_4))) + 1)).2.1 4 (ix (nI i_4))) + (Int32.toInt64 (f_X0_costOfTick ((sI τ_4 5 (ix (nI i_4)) ((τ_4.1 5 (ix (nI i_4))) + 1)).1 1 (ix (nI i_4))))))) := inv_sJ hI
          refine lv_iinc (v := (a1_4 + 1)) (lv' := [(1, .int (a1_4 + 1)), (2, .int (nI i_4)), (0, .ref (q 0))]) hx hb dX0_chargeTasks_51 hl (k := 1) rfl rfl (by decide) rfl (fun ls hl => ?_)
          refine lv_goto (tgt := 76) hx hb dX0_chargeTasks_54 (by decide) ?_
          exact K19 _ _ _ _ ⟨(a1_4 + 1), (sJ (sI τ_4 5 (ix (nI i_4)) ((τ_4.1 5 (ix (nI i_4))) + 1)) 4 (ix (nI i_4)) (((sI τ_4 5 (ix (nI i_4)) ((τ_4.1 5 (ix (nI i_4))) + 1)).2.1 4 (ix (nI i_4))) + (Int32.toInt64 (f_X0_costOfTick ((sI τ_4 5 (ix (nI i_4)) ((τ_4.1 5 (ix (nI i_4))) + 1)).1 1 (ix (nI i_4))))))), (Eq.symm (if_pos h19)), (Eq.symm (if_pos h19)), rfl, lv_sub hl [0, 1, 2] rfl, hP, hS, hI⟩
  exact L_4 T 0 0 σ ls H locs (Nat.zero_add T) rfl hI (lv_sub hl [0, 1, 2] rfl) hP hS
def F_X0_countIdleCpus_2 : Nat → St → St := fun i_2 z => (if (z.1 8 (ix (nI i_2))) = (-1) then (if (z.1 9 (ix (nI i_2))) = 0 then (sI z 10 (ix (nI i_2)) ((z.1 10 (ix (nI i_2))) + 1)) else (sI z 11 (ix (nI i_2)) ((z.1 11 (ix (nI i_2))) + 1))) else z)
def g_X0_countIdleCpus (T C : Nat) (σ : St) : St := (lp F_X0_countIdleCpus_2 (2 * C) 0 σ)
def rm_X0_countIdleCpus : Room := { frames := 1, cells := 0, slots := 0, locals := 20 }
set_option maxHeartbeats 4000000 in
set_option maxRecDepth 100000 in
theorem k_X0_countIdleCpus (l : Launch) (E : Ev) (q : Nat → Nat) (hq : Dq q) {T C : Nat} (hT : T ≤ 16) (hC : 1 ≤ C ∧ C ≤ 4) (σ : St) (hI : Inv T C σ) : WV l 0 E q σ yX0_countIdleCpus cX0_countIdleCpus 2 none rm_X0_countIdleCpus [] (g_X0_countIdleCpus T C σ) (Inv T C (g_X0_countIdleCpus T C σ) ∧ True) := by
  refine Met.ofB (by decide) (Nat.le_of_ble_eq_true rfl) (fun p e s m args below meth c ls Q B hQ hPK hl => ?_)
  obtain ⟨hx, hb, hml, hr, hlocks, hown, hts⟩ := B
  have S0 : Fx p m c cX0_countIdleCpus 2 s args RX0 := ⟨hx, hb, hml, hown, hts⟩
  obtain ⟨hP, hK⟩ := hPK
  suffices KH : ∀ (H : Heap) (locs : List Loc), PP 0 E q σ H → va_S (Aq q) s.heap H locs → W p l e rm_X0_countIdleCpus s m args below meth c H locs 0 0 Q (F0 m 0 ls []) from KH s.heap [] hP va_S.rf
  intro H locs hP hS
  have hl : lv_has ls 2 [(0, .ref (q 0))] := hl
  refine lv_iconst (v := 0) hx hb dX0_countIdleCpus_0 (by decide) ?_
  refine lv_istore_n (lv' := [(1, .int 0), (0, .ref (q 0))]) hx hb dX0_countIdleCpus_1 rfl hl (by decide) rfl (fun ls hl => ?_)
  have L_2 : ∀ (n_2 i_2 : Nat) (τ_2 : St) (ls : Array Slot) (H : Heap) (locs : List Loc), i_2 + n_2 = (2 * C) → lp F_X0_countIdleCpus_2 n_2 i_2 τ_2 = (lp F_X0_countIdleCpus_2 (2 * C) 0 σ) → Inv T C τ_2 → lv_has ls 2 [(1, .int (nI i_2)), (0, .ref (q 0))] → PP 0 E q τ_2 H → va_S (Aq q) s.heap H locs → W p l e rm_X0_countIdleCpus s m args below meth c H locs 0 0 Q (F0 m 2 ls []) := by
    intro n_2
    induction n_2 with
    | zero =>
      intro i_2 τ_2 ls H locs hi_2 hres hI hl hP hS
      have hres : τ_2 = (lp F_X0_countIdleCpus_2 (2 * C) 0 σ) := hres
      subst hres
      refine lv_iload_n hx hb dX0_countIdleCpus_2 rfl (lv_at hl 0 rfl) ?_
      refine lv_aload_n hx hb dX0_countIdleCpus_3 rfl (lv_at hl 1 rfl) ?_
      refine cl_RI (k_X0_cpuTotal l E q hq hT hC (lp F_X0_countIdleCpus_2 (2 * C) 0 σ) hI ) gw_X0_147 hd_X0_cpuTotal ⟨rfl, rfl⟩ S0 hK hP (rest := [.int (nI i_2)]) rfl hl.1 (Nat.le_of_ble_eq_true rfl) ⟨(Nat.le_of_ble_eq_true rfl), (Nat.le_of_ble_eq_true rfl)⟩ ⟨Nat.zero_le _, Nat.zero_le _⟩ dX0_countIdleCpus_4 (fun hex => ?_)
      refine lv_icmp_ge (tgt := 61) hx hb dX0_countIdleCpus_7 (by decide) (fun _ => ?_) (fun h => absurd (lp_out (show f_X0_cpuTotal T C _ = nI (2 * C) from cpuT hI) (by omega) hi_2) h)
      have hl := lv_sub (l' := [(0, .ref (q 0))]) hl [1] rfl
      exact rt_WV hQ hx hb hr hlocks (Eq.subst (motive := fun z => PP 0 E q z H) (show (lp F_X0_countIdleCpus_2 (2 * C) 0 σ) = (g_X0_countIdleCpus T C σ) from rfl) hP) hS ⟨Eq.subst (motive := fun z => Inv T C z) (show (lp F_X0_countIdleCpus_2 (2 * C) 0 σ) = (g_X0_countIdleCpus T C σ) from rfl) hI, trivial⟩ dX0_countIdleCpus_61
    | succ n_2 ih_2 =>
      intro i_2 τ_2 ls H locs hi_2 hres hI hl hP hS
      refine lv_iload_n hx hb dX0_countIdleCpus_2 rfl (lv_at hl 0 rfl) ?_
      refine lv_aload_n hx hb dX0_countIdleCpus_3 rfl (lv_at hl 1 rfl) ?_
      refine cl_RI (k_X0_cpuTotal l E q hq hT hC τ_2 hI ) gw_X0_147 hd_X0_cpuTotal ⟨rfl, rfl⟩ S0 hK hP (rest := [.int (nI i_2)]) rfl hl.1 (Nat.le_of_ble_eq_true rfl) ⟨(Nat.le_of_ble_eq_true rfl), (Nat.le_of_ble_eq_true rfl)⟩ ⟨Nat.zero_le _, Nat.zero_le _⟩ dX0_countIdleCpus_4 (fun hex => ?_)
      refine lv_icmp_ge (tgt := 61) hx hb dX0_countIdleCpus_7 (by decide) (fun h => absurd h (lp_in (show f_X0_cpuTotal T C _ = nI (2 * C) from cpuT hI) (by omega) hi_2)) (fun _ => ?_)
      refine lv_aload_n hx hb dX0_countIdleCpus_10 rfl (lv_at hl 1 rfl) ?_
      refine gf_X0_35 hx hb hts hown hK hP dX0_countIdleCpus_11 ?_
      refine lv_iload_n hx hb dX0_countIdleCpus_14 rfl (lv_at hl 0 rfl) ?_
      refine ld_8 hx hb hK hP (vp_in_nI (by omega) (by decide)) dX0_countIdleCpus_15 ?_
      refine lv_iconst (v := -1) hx hb dX0_countIdleCpus_16 (by decide) ?_
      refine cutG (fun ls H locs st => ∃ σ9 : St, σ9 = (if (τ_2.1 8 (ix (nI i_2))) = (-1) then (if (τ_2.1 9 (ix (nI i_2))) = 0 then (sI τ_2 10 (ix (nI i_2)) ((τ_2.1 10 (ix (nI i_2))) + 1)) else (sI τ_2 11 (ix (nI i_2)) ((τ_2.1 11 (ix (nI i_2))) + 1))) else τ_2) ∧ st = [] ∧ lv_has ls 2 [(1, .int (nI i_2)), (0, .ref (q 0))] ∧ PP 0 E q σ9 H ∧ va_S (Aq q) s.heap H locs ∧ Inv T C σ9) 55 (fun ls H locs st hKp => ?_) (fun K17 => ?_)
      · obtain ⟨_, rfl, rfl, hl, hP, hS, hI⟩ := hKp
        refine lv_iinc (v := (nI (i_2 + 1))) (lv' := [(1, .int (nI (i_2 + 1))), (0, .ref (q 0))]) hx hb dX0_countIdleCpus_55 hl (k := 0) rfl (nI_1 _) (by decide) rfl (fun ls hl => ?_)
        refine lv_goto (tgt := 2) hx hb dX0_countIdleCpus_58 (by decide) ?_
        exact ih_2 (i_2 + 1) (if (τ_2.1 8 (ix (nI i_2))) = (-1) then (if (τ_2.1 9 (ix (nI i_2))) = 0 then (sI τ_2 10 (ix (nI i_2)) ((τ_2.1 10 (ix (nI i_2))) + 1)) else (sI τ_2 11 (ix (nI i_2)) ((τ_2.1 11 (ix (nI i_2))) + 1))) else τ_2) ls H locs (by omega) hres (Eq.subst (motive := fun z => Inv T C z) (show (if (τ_2.1 8 (ix (nI i_2))) = (-1) then (if (τ_2.1 9 (ix (nI i_2))) = 0 then (sI τ_2 10 (ix (nI i_2)) ((τ_2.1 10 (ix (nI i_2))) + 1)) else (sI τ_2 11 (ix (nI i_2)) ((τ_2.1 11 (ix (nI i_2))) + 1))) else τ_2) = (if (τ_2.1 8 (ix (nI i_2))) = (-1) then (if (τ_2.1 9 (ix (nI i_2))) = 0 then (sI τ_2 10 (ix (nI i_2)) ((τ_2.1 10 (ix (nI i_2))) + 1)) else (sI τ_2 11 (ix (nI i_2)) ((τ_2.1 11 (ix (nI i_2))) + 1))) else τ_2) from rfl) hI) (lv_sub (l' := [(1, .int (nI (i_2 + 1))), (0, .ref (q 0))]) hl [0, 1] rfl) (Eq.subst (motive := fun z => PP 0 E q z H) (show (if (τ_2.1 8 (ix (nI i_2))) = (-1) then (if (τ_2.1 9 (ix (nI i_2))) = 0 then (sI τ_2 10 (ix (nI i_2)) ((τ_2.1 10 (ix (nI i_2))) + 1)) else (sI τ_2 11 (ix (nI i_2)) ((τ_2.1 11 (ix (nI i_2))) + 1))) else τ_2) = (if (τ_2.1 8 (ix (nI i_2))) = (-1) then (if (τ_2.1 9 (ix (nI i_2))) = 0 then (sI τ_2 10 (ix (nI i_2)) ((τ_2.1 10 (ix (nI i_2))) + 1)) else (sI τ_2 11 (ix (nI i_2)) ((τ_2.1 11 (ix (nI i_2))) + 1))) else τ_2) from rfl) hP) hS
      · refine lv_icmp_eq (tgt := 23) hx hb dX0_countIdleCpus_17 (by decide) (fun h17 => ?_) (fun h17 => ?_)
        · skip
          refine lv_aload_n hx hb dX0_countIdleCpus_23 rfl (lv_at hl 1 rfl) ?_
          refine gf_X0_38 hx hb hts hown hK hP dX0_countIdleCpus_24 ?_
          refine lv_iload_n hx hb dX0_countIdleCpus_27 rfl (lv_at hl 0 rfl) ?_
          refine ld_9 hx hb hK hP (vp_in_nI (by omega) (by decide)) dX0_countIdleCpus_28 ?_
          refine lv_if_eq (tgt := 45) hx hb dX0_countIdleCpus_29 (by decide) (fun h29 => ?_) (fun h29 => ?_)
          · skip
            refine lv_aload_n hx hb dX0_countIdleCpus_45 rfl (lv_at hl 1 rfl) ?_
            refine gf_X0_42 hx hb hts hown hK hP dX0_countIdleCpus_46 ?_
            refine lv_iload_n hx hb dX0_countIdleCpus_49 rfl (lv_at hl 0 rfl) ?_
            refine lv_dup2_11 hx hb dX0_countIdleCpus_50 rfl rfl ?_
            refine ld_10 hx hb hK hP (vp_in_nI (by omega) (by decide)) dX0_countIdleCpus_51 ?_
            refine lv_iconst (v := 1) hx hb dX0_countIdleCpus_52 (by decide) ?_
            refine lv_iadd hx hb dX0_countIdleCpus_53 ?_
            refine st_10 hx hb hK hq hP hS (vp_in_nI (by omega) (by decide)) dX0_countIdleCpus_54 (fun H locs hP hS => ?_)
            have hI : Inv T C (sI τ_2 10 (ix (nI i_2)) ((τ_2.1 10 (ix (nI i_2))) + 1)) := inv_sI (by decide) hI
            exact K17 _ _ _ _ ⟨(sI τ_2 10 (ix (nI i_2)) ((τ_2.1 10 (ix (nI i_2))) + 1)), (Eq.symm (Eq.trans (if_pos h17) (if_pos h29))), rfl, lv_sub hl [0, 1] rfl, hP, hS, hI⟩
          · skip
            refine lv_aload_n hx hb dX0_countIdleCpus_32 rfl (lv_at hl 1 rfl) ?_
            refine gf_X0_45 hx hb hts hown hK hP dX0_countIdleCpus_33 ?_
            refine lv_iload_n hx hb dX0_countIdleCpus_36 rfl (lv_at hl 0 rfl) ?_
            refine lv_dup2_11 hx hb dX0_countIdleCpus_37 rfl rfl ?_
            refine ld_11 hx hb hK hP (vp_in_nI (by omega) (by decide)) dX0_countIdleCpus_38 ?_
            refine lv_iconst (v := 1) hx hb dX0_countIdleCpus_39 (by decide) ?_
            refine lv_iadd hx hb dX0_countIdleCpus_40 ?_
            refine st_11 hx hb hK hq hP hS (vp_in_nI (by omega) (by decide)) dX0_countIdleCpus_41 (fun H locs hP hS => ?_)
            have hI : Inv T C (sI τ_2 11 (ix (nI i_2)) ((τ_2.1 11 (ix (nI i_2))) + 1)) := inv_sI (by decide) hI
            refine lv_goto (tgt := 55) hx hb dX0_countIdleCpus_42 (by decide) ?_
            exact K17 _ _ _ _ ⟨(sI τ_2 11 (ix (nI i_2)) ((τ_2.1 11 (ix (nI i_2))) + 1)), (Eq.symm (Eq.trans (if_pos h17) (if_neg h29))), rfl, lv_sub hl [0, 1] rfl, hP, hS, hI⟩
        · skip
          refine lv_goto (tgt := 55) hx hb dX0_countIdleCpus_20 (by decide) ?_
          exact K17 _ _ _ _ ⟨τ_2, (Eq.symm (if_neg h17)), rfl, lv_sub hl [0, 1] rfl, hP, hS, hI⟩
  exact L_2 (2 * C) 0 σ ls H locs (Nat.zero_add _) rfl hI (lv_sub hl [0, 1] rfl) hP hS
def F_X0_raiseBases_2 (T : Nat) (C : Nat) : Nat → St → St := fun i_2 z => (if (f_X0_findLeastTime T C z (nI i_2)) = (-1) then z else (sJ z 7 (ix (nI i_2)) (if (z.2.1 4 (ix (f_X0_findLeastTime T C z (nI i_2)))) < (z.2.1 7 (ix (nI i_2))) then (z.2.1 7 (ix (nI i_2))) else (z.2.1 4 (ix (f_X0_findLeastTime T C z (nI i_2)))))))
def g_X0_raiseBases (T C : Nat) (σ : St) : St := (lp (F_X0_raiseBases_2 T C) (2 * C) 0 σ)
def rm_X0_raiseBases : Room := { frames := 3, cells := 0, slots := 0, locals := 66 }
set_option maxHeartbeats 4000000 in
set_option maxRecDepth 100000 in
theorem k_X0_raiseBases (l : Launch) (E : Ev) (q : Nat → Nat) (hq : Dq q) {T C : Nat} (hT : T ≤ 16) (hC : 1 ≤ C ∧ C ≤ 4) (σ : St) (hI : Inv T C σ) : WV l 0 E q σ yX0_raiseBases cX0_raiseBases 3 none rm_X0_raiseBases [] (g_X0_raiseBases T C σ) (Inv T C (g_X0_raiseBases T C σ) ∧ True) := by
  refine Met.ofB (by decide) (Nat.le_of_ble_eq_true rfl) (fun p e s m args below meth c ls Q B hQ hPK hl => ?_)
  obtain ⟨hx, hb, hml, hr, hlocks, hown, hts⟩ := B
  have S0 : Fx p m c cX0_raiseBases 3 s args RX0 := ⟨hx, hb, hml, hown, hts⟩
  obtain ⟨hP, hK⟩ := hPK
  suffices KH : ∀ (H : Heap) (locs : List Loc), PP 0 E q σ H → va_S (Aq q) s.heap H locs → W p l e rm_X0_raiseBases s m args below meth c H locs 0 0 Q (F0 m 0 ls []) from KH s.heap [] hP va_S.rf
  intro H locs hP hS
  have hl : lv_has ls 3 [(0, .ref (q 0))] := hl
  refine lv_iconst (v := 0) hx hb dX0_raiseBases_0 (by decide) ?_
  refine lv_istore_n (lv' := [(1, .int 0), (0, .ref (q 0))]) hx hb dX0_raiseBases_1 rfl hl (by decide) rfl (fun ls hl => ?_)
  have L_2 : ∀ (n_2 i_2 : Nat) (τ_2 : St) (ls : Array Slot) (H : Heap) (locs : List Loc), i_2 + n_2 = (2 * C) → lp (F_X0_raiseBases_2 T C) n_2 i_2 τ_2 = (lp (F_X0_raiseBases_2 T C) (2 * C) 0 σ) → Inv T C τ_2 → lv_has ls 3 [(1, .int (nI i_2)), (0, .ref (q 0))] → PP 0 E q τ_2 H → va_S (Aq q) s.heap H locs → W p l e rm_X0_raiseBases s m args below meth c H locs 0 0 Q (F0 m 2 ls []) := by
    intro n_2
    induction n_2 with
    | zero =>
      intro i_2 τ_2 ls H locs hi_2 hres hI hl hP hS
      have hres : τ_2 = (lp (F_X0_raiseBases_2 T C) (2 * C) 0 σ) := hres
      subst hres
      refine lv_iload_n hx hb dX0_raiseBases_2 rfl (lv_at hl 0 rfl) ?_
      refine lv_aload_n hx hb dX0_raiseBases_3 rfl (lv_at hl 1 rfl) ?_
      refine cl_RI (k_X0_cpuTotal l E q hq hT hC (lp (F_X0_raiseBases_2 T C) (2 * C) 0 σ) hI ) gw_X0_147 hd_X0_cpuTotal ⟨rfl, rfl⟩ S0 hK hP (rest := [.int (nI i_2)]) rfl hl.1 (Nat.le_of_ble_eq_true rfl) ⟨(Nat.le_of_ble_eq_true rfl), (Nat.le_of_ble_eq_true rfl)⟩ ⟨Nat.zero_le _, Nat.zero_le _⟩ dX0_raiseBases_4 (fun hex => ?_)
      refine lv_icmp_ge (tgt := 48) hx hb dX0_raiseBases_7 (by decide) (fun _ => ?_) (fun h => absurd (lp_out (show f_X0_cpuTotal T C _ = nI (2 * C) from cpuT hI) (by omega) hi_2) h)
      have hl := lv_sub (l' := [(0, .ref (q 0))]) hl [1] rfl
      exact rt_WV hQ hx hb hr hlocks (Eq.subst (motive := fun z => PP 0 E q z H) (show (lp (F_X0_raiseBases_2 T C) (2 * C) 0 σ) = (g_X0_raiseBases T C σ) from rfl) hP) hS ⟨Eq.subst (motive := fun z => Inv T C z) (show (lp (F_X0_raiseBases_2 T C) (2 * C) 0 σ) = (g_X0_raiseBases T C σ) from rfl) hI, trivial⟩ dX0_raiseBases_48
    | succ n_2 ih_2 =>
      intro i_2 τ_2 ls H locs hi_2 hres hI hl hP hS
      refine lv_iload_n hx hb dX0_raiseBases_2 rfl (lv_at hl 0 rfl) ?_
      refine lv_aload_n hx hb dX0_raiseBases_3 rfl (lv_at hl 1 rfl) ?_
      refine cl_RI (k_X0_cpuTotal l E q hq hT hC τ_2 hI ) gw_X0_147 hd_X0_cpuTotal ⟨rfl, rfl⟩ S0 hK hP (rest := [.int (nI i_2)]) rfl hl.1 (Nat.le_of_ble_eq_true rfl) ⟨(Nat.le_of_ble_eq_true rfl), (Nat.le_of_ble_eq_true rfl)⟩ ⟨Nat.zero_le _, Nat.zero_le _⟩ dX0_raiseBases_4 (fun hex => ?_)
      refine lv_icmp_ge (tgt := 48) hx hb dX0_raiseBases_7 (by decide) (fun h => absurd h (lp_in (show f_X0_cpuTotal T C _ = nI (2 * C) from cpuT hI) (by omega) hi_2)) (fun _ => ?_)
      refine lv_aload_n hx hb dX0_raiseBases_10 rfl (lv_at hl 1 rfl) ?_
      refine lv_iload_n hx hb dX0_raiseBases_11 rfl (lv_at hl 0 rfl) ?_
      refine cl_RI (k_X0_findLeastTime l E q hq hT hC τ_2 hI (nI i_2) ) gw_X0_213 hd_X0_findLeastTime ⟨rfl, rfl⟩ S0 hK hP (rest := []) rfl hl.1 (Nat.le_of_ble_eq_true rfl) ⟨(Nat.le_of_ble_eq_true rfl), (Nat.le_of_ble_eq_true rfl)⟩ ⟨Nat.zero_le _, Nat.zero_le _⟩ dX0_raiseBases_12 (fun hex => ?_)
      obtain ⟨hx12_0, -⟩ := hex
      refine lv_istore_n (lv' := [(2, .int (f_X0_findLeastTime T C τ_2 (nI i_2))), (1, .int (nI i_2)), (0, .ref (q 0))]) hx hb dX0_raiseBases_15 rfl hl (by decide) rfl (fun ls hl => ?_)
      refine lv_iload_n hx hb dX0_raiseBases_16 rfl (lv_at hl 0 rfl) ?_
      refine lv_iconst (v := -1) hx hb dX0_raiseBases_17 (by decide) ?_
      refine cutG (fun ls H locs st => ∃ σ9 : St, σ9 = (if (f_X0_findLeastTime T C τ_2 (nI i_2)) = (-1) then τ_2 else (sJ τ_2 7 (ix (nI i_2)) (if (τ_2.2.1 4 (ix (f_X0_findLeastTime T C τ_2 (nI i_2)))) < (τ_2.2.1 7 (ix (nI i_2))) then (τ_2.2.1 7 (ix (nI i_2))) else (τ_2.2.1 4 (ix (f_X0_findLeastTime T C τ_2 (nI i_2))))))) ∧ st = [] ∧ lv_has ls 3 [(2, .int (f_X0_findLeastTime T C τ_2 (nI i_2))), (1, .int (nI i_2)), (0, .ref (q 0))] ∧ PP 0 E q σ9 H ∧ va_S (Aq q) s.heap H locs ∧ Inv T C σ9) 42 (fun ls H locs st hKp => ?_) (fun K18 => ?_)
      · obtain ⟨_, rfl, rfl, hl, hP, hS, hI⟩ := hKp
        refine lv_iinc (v := (nI (i_2 + 1))) (lv' := [(1, .int (nI (i_2 + 1))), (2, .int (f_X0_findLeastTime T C τ_2 (nI i_2))), (0, .ref (q 0))]) hx hb dX0_raiseBases_42 hl (k := 1) rfl (nI_1 _) (by decide) rfl (fun ls hl => ?_)
        refine lv_goto (tgt := 2) hx hb dX0_raiseBases_45 (by decide) ?_
        exact ih_2 (i_2 + 1) (if (f_X0_findLeastTime T C τ_2 (nI i_2)) = (-1) then τ_2 else (sJ τ_2 7 (ix (nI i_2)) (if (τ_2.2.1 4 (ix (f_X0_findLeastTime T C τ_2 (nI i_2)))) < (τ_2.2.1 7 (ix (nI i_2))) then (τ_2.2.1 7 (ix (nI i_2))) else (τ_2.2.1 4 (ix (f_X0_findLeastTime T C τ_2 (nI i_2))))))) ls H locs (by omega) hres (Eq.subst (motive := fun z => Inv T C z) (show (if (f_X0_findLeastTime T C τ_2 (nI i_2)) = (-1) then τ_2 else (sJ τ_2 7 (ix (nI i_2)) (if (τ_2.2.1 4 (ix (f_X0_findLeastTime T C τ_2 (nI i_2)))) < (τ_2.2.1 7 (ix (nI i_2))) then (τ_2.2.1 7 (ix (nI i_2))) else (τ_2.2.1 4 (ix (f_X0_findLeastTime T C τ_2 (nI i_2))))))) = (if (f_X0_findLeastTime T C τ_2 (nI i_2)) = (-1) then τ_2 else (sJ τ_2 7 (ix (nI i_2)) (if (τ_2.2.1 4 (ix (f_X0_findLeastTime T C τ_2 (nI i_2)))) < (τ_2.2.1 7 (ix (nI i_2))) then (τ_2.2.1 7 (ix (nI i_2))) else (τ_2.2.1 4 (ix (f_X0_findLeastTime T C τ_2 (nI i_2))))))) from rfl) hI) (lv_sub (l' := [(1, .int (nI (i_2 + 1))), (0, .ref (q 0))]) hl [0, 2] rfl) (Eq.subst (motive := fun z => PP 0 E q z H) (show (if (f_X0_findLeastTime T C τ_2 (nI i_2)) = (-1) then τ_2 else (sJ τ_2 7 (ix (nI i_2)) (if (τ_2.2.1 4 (ix (f_X0_findLeastTime T C τ_2 (nI i_2)))) < (τ_2.2.1 7 (ix (nI i_2))) then (τ_2.2.1 7 (ix (nI i_2))) else (τ_2.2.1 4 (ix (f_X0_findLeastTime T C τ_2 (nI i_2))))))) = (if (f_X0_findLeastTime T C τ_2 (nI i_2)) = (-1) then τ_2 else (sJ τ_2 7 (ix (nI i_2)) (if (τ_2.2.1 4 (ix (f_X0_findLeastTime T C τ_2 (nI i_2)))) < (τ_2.2.1 7 (ix (nI i_2))) then (τ_2.2.1 7 (ix (nI i_2))) else (τ_2.2.1 4 (ix (f_X0_findLeastTime T C τ_2 (nI i_2))))))) from rfl) hP) hS
      · refine lv_icmp_eq (tgt := 42) hx hb dX0_raiseBases_18 (by decide) (fun h18 => ?_) (fun h18 => ?_)
        · skip
          exact K18 _ _ _ _ ⟨τ_2, (Eq.symm (if_pos h18)), rfl, lv_sub hl [0, 1, 2] rfl, hP, hS, hI⟩
        · skip
          refine lv_aload_n hx hb dX0_raiseBases_21 rfl (lv_at hl 2 rfl) ?_
          refine gf_X0_32 hx hb hts hown hK hP dX0_raiseBases_22 ?_
          refine lv_iload_n hx hb dX0_raiseBases_25 rfl (lv_at hl 1 rfl) ?_
          refine lv_aload_n hx hb dX0_raiseBases_26 rfl (lv_at hl 2 rfl) ?_
          refine gf_X0_32 hx hb hts hown hK hP dX0_raiseBases_27 ?_
          refine lv_iload_n hx hb dX0_raiseBases_30 rfl (lv_at hl 1 rfl) ?_
          refine ld_7 hx hb hK hP (vp_in_nI (by omega) (by decide)) dX0_raiseBases_31 ?_
          refine lv_aload_n hx hb dX0_raiseBases_32 rfl (lv_at hl 2 rfl) ?_
          refine gf_X0_22 hx hb hts hown hK hP dX0_raiseBases_33 ?_
          refine lv_iload_n hx hb dX0_raiseBases_36 rfl (lv_at hl 0 rfl) ?_
          refine ld_4 hx hb hK hP (vo.in hx12_0 h18) dX0_raiseBases_37 ?_
          refine mmx hx hb (hml.trans hl.1.symm) hown hts (Nat.le_of_ble_eq_true rfl) (Nat.le_of_ble_eq_true rfl) ⟨Nat.zero_le _, Nat.zero_le _⟩ dX0_raiseBases_38 ?_
          refine st_7 hx hb hK hq hP hS (vp_in_nI (by omega) (by decide)) dX0_raiseBases_41 (fun H locs hP hS => ?_)
          have hI : Inv T C (sJ τ_2 7 (ix (nI i_2)) (if (τ_2.2.1 4 (ix (f_X0_findLeastTime T C τ_2 (nI i_2)))) < (τ_2.2.1 7 (ix (nI i_2))) then (τ_2.2.1 7 (ix (nI i_2))) else (τ_2.2.1 4 (ix (f_X0_findLeastTime T C τ_2 (nI i_2)))))) := inv_sJ hI
          exact K18 _ _ _ _ ⟨(sJ τ_2 7 (ix (nI i_2)) (if (τ_2.2.1 4 (ix (f_X0_findLeastTime T C τ_2 (nI i_2)))) < (τ_2.2.1 7 (ix (nI i_2))) then (τ_2.2.1 7 (ix (nI i_2))) else (τ_2.2.1 4 (ix (f_X0_findLeastTime T C τ_2 (nI i_2)))))), (Eq.symm (if_neg h18)), rfl, lv_sub hl [0, 1, 2] rfl, hP, hS, hI⟩
  exact L_2 (2 * C) 0 σ ls H locs (Nat.zero_add _) rfl hI (lv_sub hl [0, 1] rfl) hP hS
def F_X0_simulateTick_2 (T : Nat) (C : Nat) : Nat → St → St := fun i_2 z => (g_X0_pickForCore T C z i_2)
def f_X0_simulateTick (T C : Nat) (σ : St) : Int32 := (f_X0_chargeTasks T C (lp (F_X0_simulateTick_2 T C) C 0 σ))
def g_X0_simulateTick (T C : Nat) (σ : St) : St := (g_X0_raiseBases T C (g_X0_countIdleCpus T C (g_X0_chargeTasks T C (lp (F_X0_simulateTick_2 T C) C 0 σ))))
def rm_X0_simulateTick : Room := { frames := 6, cells := 0, slots := 0, locals := 139 }
set_option maxHeartbeats 4000000 in
set_option maxRecDepth 100000 in
theorem k_X0_simulateTick (l : Launch) (E : Ev) (q : Nat → Nat) (hq : Dq q) {T C : Nat} (hT : T ≤ 16) (hC : 1 ≤ C ∧ C ≤ 4) (σ : St) (hI : Inv T C σ) : WI l 0 E q σ yX0_simulateTick cX0_simulateTick 2 (some .int) rm_X0_simulateTick [] (f_X0_simulateTick T C σ) (g_X0_simulateTick T C σ) (Inv T C (g_X0_simulateTick T C σ) ∧ True) := by
  refine Met.ofB (by decide) (Nat.le_of_ble_eq_true rfl) (fun p e s m args below meth c ls Q B hQ hPK hl => ?_)
  obtain ⟨hx, hb, hml, hr, hlocks, hown, hts⟩ := B
  have S0 : Fx p m c cX0_simulateTick 2 s args RX0 := ⟨hx, hb, hml, hown, hts⟩
  obtain ⟨hP, hK⟩ := hPK
  suffices KH : ∀ (H : Heap) (locs : List Loc), PP 0 E q σ H → va_S (Aq q) s.heap H locs → W p l e rm_X0_simulateTick s m args below meth c H locs 0 0 Q (F0 m 0 ls []) from KH s.heap [] hP va_S.rf
  intro H locs hP hS
  have hl : lv_has ls 2 [(0, .ref (q 0))] := hl
  refine lv_iconst (v := 0) hx hb dX0_simulateTick_0 (by decide) ?_
  refine lv_istore_n (lv' := [(1, .int 0), (0, .ref (q 0))]) hx hb dX0_simulateTick_1 rfl hl (by decide) rfl (fun ls hl => ?_)
  have L_2 : ∀ (n_2 i_2 : Nat) (τ_2 : St) (ls : Array Slot) (H : Heap) (locs : List Loc), i_2 + n_2 = C → lp (F_X0_simulateTick_2 T C) n_2 i_2 τ_2 = (lp (F_X0_simulateTick_2 T C) C 0 σ) → Inv T C τ_2 → lv_has ls 2 [(1, .int (nI i_2)), (0, .ref (q 0))] → PP 0 E q τ_2 H → va_S (Aq q) s.heap H locs → W p l e rm_X0_simulateTick s m args below meth c H locs 0 0 Q (F0 m 2 ls []) := by
    intro n_2
    induction n_2 with
    | zero =>
      intro i_2 τ_2 ls H locs hi_2 hres hI hl hP hS
      have hres : τ_2 = (lp (F_X0_simulateTick_2 T C) C 0 σ) := hres
      subst hres
      refine lv_iload_n hx hb dX0_simulateTick_2 rfl (lv_at hl 0 rfl) ?_
      refine lv_aload_n hx hb dX0_simulateTick_3 rfl (lv_at hl 1 rfl) ?_
      refine gf_X0_62 hx hb hts hown hK hP dX0_simulateTick_4 ?_
      refine lv_icmp_ge (tgt := 21) hx hb dX0_simulateTick_7 (by decide) (fun _ => ?_) (fun h => absurd (lp_out hI.2.2.1 (by omega) hi_2) h)
      have hl := lv_sub (l' := [(0, .ref (q 0))]) hl [1] rfl
      refine lv_aload_n hx hb dX0_simulateTick_21 rfl (lv_at hl 0 rfl) ?_
      refine cl_WI (k_X0_chargeTasks l E q hq hT hC (lp (F_X0_simulateTick_2 T C) C 0 σ) hI ) gw_X0_201 hd_X0_chargeTasks ⟨rfl, rfl⟩ S0 hK hP hS (rest := []) rfl hl.1 (Nat.le_of_ble_eq_true rfl) ⟨(Nat.le_of_ble_eq_true rfl), (Nat.le_of_ble_eq_true rfl)⟩ ⟨Nat.zero_le _, Nat.zero_le _⟩ dX0_simulateTick_22 (fun H locs hP hS hex => ?_)
      obtain ⟨hI, -⟩ := hex
      refine lv_istore_n (lv' := [(1, .int (f_X0_chargeTasks T C (lp (F_X0_simulateTick_2 T C) C 0 σ))), (0, .ref (q 0))]) hx hb dX0_simulateTick_25 rfl hl (by decide) rfl (fun ls hl => ?_)
      refine lv_aload_n hx hb dX0_simulateTick_26 rfl (lv_at hl 1 rfl) ?_
      refine cl_WV (k_X0_countIdleCpus l E q hq hT hC (g_X0_chargeTasks T C (lp (F_X0_simulateTick_2 T C) C 0 σ)) hI ) gw_X0_204 hd_X0_countIdleCpus ⟨rfl, rfl⟩ S0 hK hP hS (rest := []) rfl hl.1 (Nat.le_of_ble_eq_true rfl) ⟨(Nat.le_of_ble_eq_true rfl), (Nat.le_of_ble_eq_true rfl)⟩ ⟨Nat.zero_le _, Nat.zero_le _⟩ dX0_simulateTick_27 (fun H locs hP hS hex => ?_)
      obtain ⟨hI, -⟩ := hex
      refine lv_aload_n hx hb dX0_simulateTick_30 rfl (lv_at hl 1 rfl) ?_
      refine cl_WV (k_X0_raiseBases l E q hq hT hC (g_X0_countIdleCpus T C (g_X0_chargeTasks T C (lp (F_X0_simulateTick_2 T C) C 0 σ))) hI ) gw_X0_207 hd_X0_raiseBases ⟨rfl, rfl⟩ S0 hK hP hS (rest := []) rfl hl.1 (Nat.le_of_ble_eq_true rfl) ⟨(Nat.le_of_ble_eq_true rfl), (Nat.le_of_ble_eq_true rfl)⟩ ⟨Nat.zero_le _, Nat.zero_le _⟩ dX0_simulateTick_31 (fun H locs hP hS hex => ?_)
      obtain ⟨hI, -⟩ := hex
      refine lv_iload_n hx hb dX0_simulateTick_34 rfl (lv_at hl 0 rfl) ?_
      exact rt_WI hQ hx hb hr hlocks (Eq.subst (motive := fun z => PP 0 E q z H) (show (g_X0_raiseBases T C (g_X0_countIdleCpus T C (g_X0_chargeTasks T C (lp (F_X0_simulateTick_2 T C) C 0 σ)))) = (g_X0_simulateTick T C σ) from rfl) hP) hS ⟨rfl, ⟨Eq.subst (motive := fun z => Inv T C z) (show (g_X0_raiseBases T C (g_X0_countIdleCpus T C (g_X0_chargeTasks T C (lp (F_X0_simulateTick_2 T C) C 0 σ)))) = (g_X0_simulateTick T C σ) from rfl) hI, trivial⟩⟩ dX0_simulateTick_35
    | succ n_2 ih_2 =>
      intro i_2 τ_2 ls H locs hi_2 hres hI hl hP hS
      refine lv_iload_n hx hb dX0_simulateTick_2 rfl (lv_at hl 0 rfl) ?_
      refine lv_aload_n hx hb dX0_simulateTick_3 rfl (lv_at hl 1 rfl) ?_
      refine gf_X0_62 hx hb hts hown hK hP dX0_simulateTick_4 ?_
      refine lv_icmp_ge (tgt := 21) hx hb dX0_simulateTick_7 (by decide) (fun h => absurd h (lp_in hI.2.2.1 (by omega) hi_2)) (fun _ => ?_)
      refine lv_aload_n hx hb dX0_simulateTick_10 rfl (lv_at hl 1 rfl) ?_
      refine lv_iload_n hx hb dX0_simulateTick_11 rfl (lv_at hl 0 rfl) ?_
      refine cl_WV (k_X0_pickForCore l E q hq hT hC τ_2 hI i_2 (by first | assumption | omega)) gw_X0_198 hd_X0_pickForCore ⟨rfl, rfl⟩ S0 hK hP hS (rest := []) rfl hl.1 (Nat.le_of_ble_eq_true rfl) ⟨(Nat.le_of_ble_eq_true rfl), (Nat.le_of_ble_eq_true rfl)⟩ ⟨Nat.zero_le _, Nat.zero_le _⟩ dX0_simulateTick_12 (fun H locs hP hS hex => ?_)
      obtain ⟨hI, -⟩ := hex
      refine lv_iinc (v := (nI (i_2 + 1))) (lv' := [(1, .int (nI (i_2 + 1))), (0, .ref (q 0))]) hx hb dX0_simulateTick_15 hl (k := 0) rfl (nI_1 _) (by decide) rfl (fun ls hl => ?_)
      refine lv_goto (tgt := 2) hx hb dX0_simulateTick_18 (by decide) ?_
      exact ih_2 (i_2 + 1) (g_X0_pickForCore T C τ_2 i_2) ls H locs (by omega) hres (Eq.subst (motive := fun z => Inv T C z) (show (g_X0_pickForCore T C τ_2 i_2) = (g_X0_pickForCore T C τ_2 i_2) from rfl) hI) (lv_sub (l' := [(1, .int (nI (i_2 + 1))), (0, .ref (q 0))]) hl [0, 1] rfl) (Eq.subst (motive := fun z => PP 0 E q z H) (show (g_X0_pickForCore T C τ_2 i_2) = (g_X0_pickForCore T C τ_2 i_2) from rfl) hP) hS
  exact L_2 C 0 σ ls H locs (Nat.zero_add _) rfl hI (lv_sub hl [0, 1] rfl) hP hS
end
