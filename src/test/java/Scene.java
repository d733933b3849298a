/**
 * Schedulers in known states. Each test call gets a new one, so that no test needs an answer of
 * an object after its 512th call.
 */
enum Scene {
    /** A new object. */
    NEW(2, 0),
    /** One core, its one task asleep. */
    ONE_CORE(1, 1),
    /** Three cores: tasks in every state, CPUs idle and forced idle, and a task that was stolen. */
    MIXED(3, 7),
    /** Four cores and sixteen tasks; the first and the last one are READY. */
    FULL(4, 16);

    /** Tasks of MIXED. */
    static final int RUNNING_TASK = 0, READY_TASK = 1, STOLEN_TASK = 3, SLEEPING_TASK = 4,
        EXITED_TASK = 5, NEVER_RUN_TASK = 6;
    /** CPUs of MIXED. */
    static final int FORCED_IDLE_CPU = 1, THIEF_CPU = 3, IDLE_CPU = 4;

    final int cores;
    final int tasks;

    Scene(int cores, int tasks) {
        this.cores = cores;
        this.tasks = tasks;
    }

    int cpus() {
        return 2 * cores;
    }

    CoreScheduler build() {
        CoreScheduler s = new CoreScheduler();
        switch (this) {
            case ONE_CORE -> buildOneCore(s);
            case MIXED -> buildMixed(s);
            case FULL -> buildFull(s);
            default -> { }
        }
        return s;
    }

    private static void buildOneCore(CoreScheduler s) {
        s.reset(1);
        s.createTask(1, 3, 9);
        s.tick(2);
        s.sleep(0);
    }

    private static void buildMixed(CoreScheduler s) {
        s.reset(3);
        s.setStealing(true);
        s.createTask(0, 2, 1);
        s.createTask(FORCED_IDLE_CPU, 3, 2);
        s.createTask(2, 4, 3);
        s.createTask(0, 5, 3);
        s.createTask(IDLE_CPU, 6, 4);
        s.createTask(5, 7, 4);
        s.createTask(2, 8, 5);
        s.sleep(NEVER_RUN_TASK);
        s.tick(1);
        s.sleep(SLEEPING_TASK);
        s.exit(EXITED_TASK);
        s.tick(1);
    }

    private static void buildFull(CoreScheduler s) {
        s.reset(4);
        for (int task = 0; task < 16; task++) {
            s.createTask(task % 8, 1 + 4 * task, task % 3);
        }
        s.setStealing(true);
        s.tick(7);
        for (int task : new int[] {0, 15}) {
            s.sleep(task);
            s.wake(task);
        }
    }
}
