/**
 * A simulator of core scheduling: the two CPUs of a core only run tasks with equal cookies.
 *
 * All rows are made once, in the constructor, and used again by every reset, so that no call but a
 * throwing one makes an object. Every number in a row is tested before it is put there: a task's
 * CPU is always one of the existing CPUs, its weight always 1 to 64.
 */
public final class CoreScheduler {
    public static final int READY = 0, RUNNING = 1, SLEEPING = 2, EXITED = 3;
    public static final int NONE = -1;

    private static final int FIRST_CORES = 2;
    private static final int MAX_CORES = 4;
    private static final int CPUS_PER_CORE = 2;
    private static final int MAX_CPUS = 8;
    private static final int MAX_TASKS = 16;
    private static final int MAX_WEIGHT = 64;
    private static final int MAX_COOKIE = 9;
    private static final int MAX_TICKS = 100;
    private static final int TICK_COST = 5040;

    private final int[] taskCpu;
    private final int[] taskWeight;
    private final int[] taskCookie;
    private final int[] taskState;
    private final long[] taskTime;
    private final int[] taskRun;
    private final int[] taskWait;

    private final long[] cpuBase;
    private final int[] cpuTask;
    // Kept apart from the queue, which may lose its tasks to thieves before the tick is counted.
    private final boolean[] cpuForced;
    private final int[] cpuIdle;
    private final int[] cpuForcedIdle;

    private final int[] pickedCookie;

    private int coreTotal;
    private int taskTotal;
    private int stolenTotal;
    private boolean stealing;

    public CoreScheduler() {
        taskCpu = new int[MAX_TASKS];
        taskWeight = new int[MAX_TASKS];
        taskCookie = new int[MAX_TASKS];
        taskState = new int[MAX_TASKS];
        taskTime = new long[MAX_TASKS];
        taskRun = new int[MAX_TASKS];
        taskWait = new int[MAX_TASKS];
        cpuBase = new long[MAX_CPUS];
        cpuTask = new int[MAX_CPUS];
        cpuForced = new boolean[MAX_CPUS];
        cpuIdle = new int[MAX_CPUS];
        cpuForcedIdle = new int[MAX_CPUS];
        pickedCookie = new int[MAX_CORES];
        startAnew(FIRST_CORES);
    }

    // ---- machine

    public int reset(int cores) throws IllegalArgumentException {
        if (cores < 1 || cores > MAX_CORES) {
            throw new IllegalArgumentException("cores is out of range");
        }
        int previous = coreTotal;
        startAnew(cores);
        return previous;
    }

    public boolean setStealing(boolean enabled) {
        boolean previous = stealing;
        stealing = enabled;
        return previous;
    }

    public int tick(int ticks) throws IllegalArgumentException {
        if (ticks < 1 || ticks > MAX_TICKS) {
            throw new IllegalArgumentException("ticks is out of range");
        }
        int gained = 0;
        for (int i = 0; i < ticks; i++) {
            gained += simulateTick();
        }
        return gained;
    }

    // ---- tasks

    public int createTask(int cpu, int weight, int cookie)
            throws IllegalArgumentException, IllegalStateException {
        checkCpu(cpu);
        checkWeight(weight);
        checkCookie(cookie);
        if (taskTotal >= MAX_TASKS) {
            throw new IllegalStateException("there are already 16 tasks");
        }
        int task = taskTotal;
        taskTotal++;
        taskCpu[task] = cpu;
        taskWeight[task] = weight;
        taskCookie[task] = cookie;
        taskTime[task] = 0;
        taskRun[task] = 0;
        taskWait[task] = 0;
        enterQueue(task);
        return task;
    }

    public int sleep(int task) throws IllegalArgumentException, IllegalStateException {
        checkTask(task);
        if (!isRunnable(task)) {
            throw new IllegalStateException("the task is not runnable");
        }
        return stopTask(task, SLEEPING);
    }

    public long wake(int task) throws IllegalArgumentException, IllegalStateException {
        checkTask(task);
        if (taskState[task] != SLEEPING) {
            throw new IllegalStateException("the task is not sleeping");
        }
        enterQueue(task);
        return taskTime[task];
    }

    public int exit(int task) throws IllegalArgumentException, IllegalStateException {
        checkTask(task);
        checkNotExited(task);
        return stopTask(task, EXITED);
    }

    public int setWeight(int task, int weight)
            throws IllegalArgumentException, IllegalStateException {
        checkTask(task);
        checkWeight(weight);
        checkNotExited(task);
        int previous = taskWeight[task];
        taskWeight[task] = weight;
        return previous;
    }

    public int setCookie(int task, int cookie)
            throws IllegalArgumentException, IllegalStateException {
        checkTask(task);
        checkCookie(cookie);
        checkNotExited(task);
        int previous = taskCookie[task];
        taskCookie[task] = cookie;
        return previous;
    }

    public int moveTask(int task, int cpu) throws IllegalArgumentException, IllegalStateException {
        checkTask(task);
        checkCpu(cpu);
        checkNotExited(task);
        if (taskState[task] == RUNNING) {
            throw new IllegalStateException("the task is running");
        }
        int previous = taskCpu[task];
        if (taskState[task] == READY) {
            moveRunnable(task, cpu);
        } else {
            taskCpu[task] = cpu;
        }
        return previous;
    }

    public int taskCount() {
        return taskTotal;
    }

    public int stateOf(int task) throws IllegalArgumentException {
        checkTask(task);
        return taskState[task];
    }

    public int cpuOf(int task) throws IllegalArgumentException {
        checkTask(task);
        return taskCpu[task];
    }

    public long virtualTime(int task) throws IllegalArgumentException {
        checkTask(task);
        return taskTime[task];
    }

    public int runTicks(int task) throws IllegalArgumentException {
        checkTask(task);
        return taskRun[task];
    }

    public int waitTicks(int task) throws IllegalArgumentException {
        checkTask(task);
        return taskWait[task];
    }

    public double share(int task) throws IllegalArgumentException {
        checkTask(task);
        double run = (double) taskRun[task];
        double sum = run + (double) taskWait[task];
        return sum > 0.0 ? run / sum : 0.0;
    }

    // ---- CPUs and cores

    public int runningTask(int cpu) throws IllegalArgumentException {
        checkCpu(cpu);
        return cpuTask[cpu];
    }

    public int coreCookie(int core) throws IllegalArgumentException {
        checkCore(core);
        return pickedCookie[core];
    }

    public int leaderOf(int core) throws IllegalArgumentException {
        checkCore(core);
        return findLeader(core);
    }

    public int queueLength(int cpu) throws IllegalArgumentException {
        checkCpu(cpu);
        return countQueue(cpu);
    }

    public int queuedTask(int cpu, int index)
            throws IllegalArgumentException, IndexOutOfBoundsException {
        checkCpu(cpu);
        for (int task = 0; task < taskTotal; task++) {
            if (isQueued(task, cpu) && positionOf(task) == index) {
                return task;
            }
        }
        throw new IndexOutOfBoundsException("there is no such position");
    }

    public long baseOf(int cpu) throws IllegalArgumentException {
        checkCpu(cpu);
        return cpuBase[cpu];
    }

    public int idleTicks(int cpu) throws IllegalArgumentException {
        checkCpu(cpu);
        return cpuIdle[cpu];
    }

    public int forcedIdleTicks(int cpu) throws IllegalArgumentException {
        checkCpu(cpu);
        return cpuForcedIdle[cpu];
    }

    public int stolenTasks() {
        return stolenTotal;
    }

    // ---- arguments

    private void checkTask(int task) throws IllegalArgumentException {
        if (task < 0 || task >= taskTotal) {
            throw new IllegalArgumentException("there is no such task");
        }
    }

    private void checkCpu(int cpu) throws IllegalArgumentException {
        if (cpu < 0 || cpu >= cpuTotal()) {
            throw new IllegalArgumentException("there is no such CPU");
        }
    }

    private void checkCore(int core) throws IllegalArgumentException {
        if (core < 0 || core >= coreTotal) {
            throw new IllegalArgumentException("there is no such core");
        }
    }

    private static void checkWeight(int weight) throws IllegalArgumentException {
        if (weight < 1 || weight > MAX_WEIGHT) {
            throw new IllegalArgumentException("weight is out of range");
        }
    }

    private static void checkCookie(int cookie) throws IllegalArgumentException {
        if (cookie < 0 || cookie > MAX_COOKIE) {
            throw new IllegalArgumentException("cookie is out of range");
        }
    }

    private void checkNotExited(int task) throws IllegalStateException {
        if (taskState[task] == EXITED) {
            throw new IllegalStateException("the task has exited");
        }
    }

    // ---- queues and their order

    private void startAnew(int cores) {
        coreTotal = cores;
        // Rows of tasks need no clearing: createTask writes all of a task's numbers.
        taskTotal = 0;
        stolenTotal = 0;
        stealing = false;
        for (int cpu = 0; cpu < MAX_CPUS; cpu++) {
            cpuBase[cpu] = 0;
            cpuTask[cpu] = NONE;
            cpuForced[cpu] = false;
            cpuIdle[cpu] = 0;
            cpuForcedIdle[cpu] = 0;
        }
        for (int core = 0; core < MAX_CORES; core++) {
            pickedCookie[core] = NONE;
        }
    }

    private int cpuTotal() {
        return CPUS_PER_CORE * coreTotal;
    }

    private static int coreOfCpu(int cpu) {
        return cpu / CPUS_PER_CORE;
    }

    private boolean isRunnable(int task) {
        return taskState[task] == READY || taskState[task] == RUNNING;
    }

    private boolean isQueued(int task, int cpu) {
        return taskCpu[task] == cpu && isRunnable(task);
    }

    private boolean isOnCore(int task, int core) {
        return coreOfCpu(taskCpu[task]) == core;
    }

    private long relativeTime(int task) {
        return taskTime[task] - cpuBase[taskCpu[task]];
    }

    /** The other one may be NONE, which every task comes before: a search begins with it. */
    private boolean comesBefore(int task, int other) {
        if (other == NONE) {
            return true;
        }
        long mine = relativeTime(task);
        long theirs = relativeTime(other);
        return mine < theirs || (mine == theirs && task < other);
    }

    private int positionOf(int task) {
        int position = 0;
        for (int other = 0; other < taskTotal; other++) {
            if (isQueued(other, taskCpu[task]) && comesBefore(other, task)) {
                position++;
            }
        }
        return position;
    }

    private int countQueue(int cpu) {
        int length = 0;
        for (int task = 0; task < taskTotal; task++) {
            if (isQueued(task, cpu)) {
                length++;
            }
        }
        return length;
    }

    private void enterQueue(int task) {
        taskTime[task] = Math.max(taskTime[task], cpuBase[taskCpu[task]]);
        taskState[task] = READY;
    }

    private int stopTask(int task, int newState) {
        int previous = taskState[task];
        if (previous == RUNNING) {
            cpuTask[taskCpu[task]] = NONE;
        }
        taskState[task] = newState;
        return previous;
    }

    private void moveRunnable(int task, int cpu) {
        taskTime[task] = relativeTime(task) + cpuBase[cpu];
        taskCpu[task] = cpu;
    }

    // ---- the pick

    private void pickForCore(int core) {
        int leader = findLeader(core);
        int cookie = leader == NONE ? NONE : taskCookie[leader];
        pickedCookie[core] = cookie;
        releaseTasks(core);
        int firstCpu = CPUS_PER_CORE * core;
        for (int cpu = firstCpu; cpu < firstCpu + CPUS_PER_CORE; cpu++) {
            int task = leader == NONE ? NONE : takeTask(cpu, cookie);
            giveToCpu(cpu, task);
        }
    }

    private int findLeader(int core) {
        int leader = NONE;
        for (int task = 0; task < taskTotal; task++) {
            if (isRunnable(task) && isOnCore(task, core) && comesBefore(task, leader)) {
                leader = task;
            }
        }
        return leader;
    }

    private void releaseTasks(int core) {
        for (int task = 0; task < taskTotal; task++) {
            if (taskState[task] == RUNNING && isOnCore(task, core)) {
                taskState[task] = READY;
            }
        }
    }

    private int takeTask(int cpu, int cookie) {
        int own = findOwn(cpu, cookie);
        if (own != NONE || !stealing) {
            return own;
        }
        int loot = findLoot(coreOfCpu(cpu), cookie);
        if (loot != NONE) {
            moveRunnable(loot, cpu);
            stolenTotal++;
        }
        return loot;
    }

    private int findOwn(int cpu, int cookie) {
        int first = NONE;
        for (int task = 0; task < taskTotal; task++) {
            if (isQueued(task, cpu) && taskCookie[task] == cookie && comesBefore(task, first)) {
                first = task;
            }
        }
        return first;
    }

    private int findLoot(int core, int cookie) {
        int first = NONE;
        for (int task = 0; task < taskTotal; task++) {
            if (isLoot(task, core, cookie) && comesBefore(task, first)) {
                first = task;
            }
        }
        return first;
    }

    private boolean isLoot(int task, int core, int cookie) {
        return taskState[task] == READY && taskCookie[task] == cookie && !isOnCore(task, core);
    }

    private void giveToCpu(int cpu, int task) {
        cpuTask[cpu] = task;
        cpuForced[cpu] = task == NONE && countQueue(cpu) > 0;
        if (task != NONE) {
            taskState[task] = RUNNING;
        }
    }

    // ---- the steps of a tick

    private int simulateTick() {
        for (int core = 0; core < coreTotal; core++) {
            pickForCore(core);
        }
        int gained = chargeTasks();
        countIdleCpus();
        raiseBases();
        return gained;
    }

    private int chargeTasks() {
        int gained = 0;
        for (int task = 0; task < taskTotal; task++) {
            if (taskState[task] == RUNNING) {
                taskRun[task]++;
                taskTime[task] += costOfTick(taskWeight[task]);
                gained++;
            } else if (taskState[task] == READY) {
                taskWait[task]++;
            }
        }
        return gained;
    }

    /** No weight is below 1; it is tested here all the same, because it divides. */
    private static int costOfTick(int weight) {
        return weight < 1 ? TICK_COST : TICK_COST / weight;
    }

    private void countIdleCpus() {
        for (int cpu = 0; cpu < cpuTotal(); cpu++) {
            if (cpuTask[cpu] != NONE) {
                continue;
            }
            if (cpuForced[cpu]) {
                cpuForcedIdle[cpu]++;
            } else {
                cpuIdle[cpu]++;
            }
        }
    }

    private void raiseBases() {
        for (int cpu = 0; cpu < cpuTotal(); cpu++) {
            int least = findLeastTime(cpu);
            if (least != NONE) {
                cpuBase[cpu] = Math.max(cpuBase[cpu], taskTime[least]);
            }
        }
    }

    /**
     * Compares the virtual times themselves: a relative time wraps around when it leaves the range
     * of long, so the first task of a queue need not be the one with the least virtual time.
     */
    private int findLeastTime(int cpu) {
        int least = NONE;
        for (int task = 0; task < taskTotal; task++) {
            if (isQueued(task, cpu) && (least == NONE || taskTime[task] < taskTime[least])) {
                least = task;
            }
        }
        return least;
    }
}
