/** Promises 19 to 27: the questions about CPUs and cores. */
public final class CpusTest {
    private static final Check CHECK = new Check("CpusTest");

    public static void main(String[] args) {
        runningTask();
        coreCookie();
        leaderOf();
        queues();
        queuedTaskWrong();
        bases();
        idleTicks();
        stolenTasks();
        noSuchCpu();
        noSuchCore();
        CHECK.end();
    }

    private static void runningTask() {
        CoreScheduler s = new CoreScheduler();
        s.createTask(0, 1, 1);
        s.createTask(3, 1, 1);
        CHECK.due("before the first pick", s.runningTask(0), CoreScheduler.NONE);
        s.tick(1);
        CHECK.due("runningTask(0)", s.runningTask(0), 0);
        CHECK.due("runningTask(1)", s.runningTask(1), CoreScheduler.NONE);
        CHECK.due("runningTask(2)", s.runningTask(2), CoreScheduler.NONE);
        CHECK.due("runningTask(3)", s.runningTask(3), 1);
        s.sleep(0);
        s.wake(0);
        CHECK.due("woken, but not picked", s.runningTask(0), CoreScheduler.NONE);
        s.exit(1);
        CHECK.due("exited", s.runningTask(3), CoreScheduler.NONE);
        s.tick(1);
        CHECK.due("picked again", s.runningTask(0), 0);
        CHECK.due("still nothing", s.runningTask(3), CoreScheduler.NONE);
    }

    private static void coreCookie() {
        CoreScheduler s = new CoreScheduler();
        s.createTask(2, 1, 0);
        CHECK.due("before the first pick", s.coreCookie(1), CoreScheduler.NONE);
        s.tick(1);
        CHECK.due("cookie 0 is a cookie", s.coreCookie(1), 0);
        CHECK.due("an idle core", s.coreCookie(0), CoreScheduler.NONE);
        s.sleep(0);
        CHECK.due("it stays until the next pick", s.coreCookie(1), 0);
        s.tick(1);
        CHECK.due("it is gone after it", s.coreCookie(1), CoreScheduler.NONE);
    }

    private static void leaderOf() {
        CoreScheduler s = new CoreScheduler();
        CHECK.due("no tasks", s.leaderOf(0), CoreScheduler.NONE);
        s.createTask(1, 1, 1);
        s.createTask(0, 1, 2);
        CHECK.due("a tie goes to the lower number", s.leaderOf(0), 0);
        CHECK.due("the other core", s.leaderOf(1), CoreScheduler.NONE);
        s.tick(1);
        CHECK.due("relative times are compared", s.leaderOf(0), 0);
        CHECK.due("baseOf(1)", s.baseOf(1), 5040);
        s.sleep(0);
        CHECK.due("a sleeping task does not lead", s.leaderOf(0), 1);
        s.sleep(1);
        CHECK.due("all asleep", s.leaderOf(0), CoreScheduler.NONE);
        s.wake(1);
        s.moveTask(1, 3);
        CHECK.due("moved away", s.leaderOf(0), CoreScheduler.NONE);
        CHECK.due("moved here", s.leaderOf(1), 1);
    }

    private static void queues() {
        CoreScheduler s = new CoreScheduler();
        CHECK.due("an empty queue", s.queueLength(0), 0);
        s.createTask(0, 1, 1);
        s.createTask(0, 2, 1);
        s.createTask(0, 3, 1);
        s.createTask(1, 3, 1);
        CHECK.due("queueLength(0)", s.queueLength(0), 3);
        CHECK.due("queueLength(1)", s.queueLength(1), 1);
        for (int i = 0; i < 3; i++) {
            CHECK.due("ties by number, " + i, s.queuedTask(0, i), i);
        }
        s.tick(3);
        CHECK.due("least time first", s.queuedTask(0, 0), 2);
        CHECK.due("then the next", s.queuedTask(0, 1), 1);
        CHECK.due("greatest time last", s.queuedTask(0, 2), 0);
        s.sleep(1);
        CHECK.due("a sleeping task is not queued", s.queueLength(0), 2);
        CHECK.due("the last one moves up", s.queuedTask(0, 1), 0);
        s.exit(2);
        CHECK.due("an exited task is not queued", s.queuedTask(0, 0), 0);
        CHECK.due("queueLength(0) at last", s.queueLength(0), 1);
    }

    private static void queuedTaskWrong() {
        CoreScheduler s = new CoreScheduler();
        CHECK.badIndex("an empty queue", () -> s.queuedTask(0, 0));
        s.createTask(0, 1, 1);
        s.createTask(0, 1, 1);
        for (int index : new int[] {-1, 2, 16, Integer.MIN_VALUE, Integer.MAX_VALUE}) {
            CHECK.badIndex("queuedTask(0, " + index + ")", () -> s.queuedTask(0, index));
        }
        CHECK.badIndex("the sibling's queue", () -> s.queuedTask(1, 0));
        CHECK.badArgument("a wrong CPU comes first", () -> s.queuedTask(4, -1));
    }

    private static void bases() {
        CoreScheduler s = new CoreScheduler();
        CHECK.due("baseOf(0) at first", s.baseOf(0), 0);
        s.createTask(0, 1, 1);
        s.createTask(0, 2, 1);
        s.tick(1);
        CHECK.due("the least time is still 0", s.baseOf(0), 0);
        s.tick(1);
        CHECK.due("the least time", s.baseOf(0), 2520);
        s.exit(0);
        s.exit(1);
        s.tick(3);
        CHECK.due("an empty queue keeps its base", s.baseOf(0), 2520);
        CHECK.due("createTask(0, 1, 1)", s.createTask(0, 1, 1), 2);
        CHECK.due("virtualTime(2)", s.virtualTime(2), 2520);
        CHECK.due("the other CPUs", s.baseOf(1) + s.baseOf(2) + s.baseOf(3), 0);
    }

    private static void idleTicks() {
        CoreScheduler s = new CoreScheduler();
        s.createTask(0, 1, 1);
        s.createTask(1, 1, 2);
        s.createTask(2, 1, 3);
        s.tick(3);
        CHECK.due("idleTicks(0)", s.idleTicks(0), 0);
        CHECK.due("idleTicks(1)", s.idleTicks(1), 0);
        CHECK.due("idleTicks(2)", s.idleTicks(2), 0);
        CHECK.due("idleTicks(3)", s.idleTicks(3), 3);
        CHECK.due("forcedIdleTicks(0)", s.forcedIdleTicks(0), 0);
        CHECK.due("forcedIdleTicks(1)", s.forcedIdleTicks(1), 3);
        CHECK.due("forcedIdleTicks(2)", s.forcedIdleTicks(2), 0);
        CHECK.due("forcedIdleTicks(3)", s.forcedIdleTicks(3), 0);
        s.sleep(0);
        s.tick(1);
        CHECK.due("an empty queue is idle", s.idleTicks(0), 1);
        CHECK.due("the sibling runs now", s.forcedIdleTicks(1), 3);
    }

    private static void stolenTasks() {
        CoreScheduler s = new CoreScheduler();
        s.setStealing(true);
        CHECK.due("stolenTasks() at first", s.stolenTasks(), 0);
        s.createTask(0, 1, 1);
        s.createTask(2, 1, 1);
        s.tick(1);
        CHECK.due("stolen by CPU 1", s.cpuOf(1), 1);
        CHECK.due("stolenTasks()", s.stolenTasks(), 1);
        s.createTask(2, 1, 1);
        s.sleep(1);
        s.wake(1);
        s.sleep(0);
        s.tick(1);
        CHECK.due("its own task runs again", s.runningTask(1), 1);
        CHECK.due("CPU 0 takes the other one", s.runningTask(0), 2);
        CHECK.due("stolenTasks() later", s.stolenTasks(), 2);
        s.sleep(2);
        s.moveTask(2, 2);
        s.wake(2);
        s.tick(1);
        CHECK.due("stolen a second time", s.cpuOf(2), 0);
        CHECK.due("each time counts", s.stolenTasks(), 3);
        s.reset(2);
        CHECK.due("stolenTasks() after reset", s.stolenTasks(), 0);
    }

    private static void noSuchCpu() {
        for (int cores = 1; cores <= 4; cores++) {
            CoreScheduler s = new CoreScheduler();
            s.reset(cores);
            s.runningTask(2 * cores - 1);
            int[] wrong = {2 * cores, 8, -1, Integer.MIN_VALUE, Integer.MAX_VALUE};
            for (int cpu : wrong) {
                String of = " of CPU " + cpu + " on " + cores + " cores";
                CHECK.badArgument("runningTask" + of, () -> s.runningTask(cpu));
                CHECK.badArgument("queueLength" + of, () -> s.queueLength(cpu));
                CHECK.badArgument("queuedTask" + of, () -> s.queuedTask(cpu, 0));
                CHECK.badArgument("baseOf" + of, () -> s.baseOf(cpu));
                CHECK.badArgument("idleTicks" + of, () -> s.idleTicks(cpu));
                CHECK.badArgument("forcedIdleTicks" + of, () -> s.forcedIdleTicks(cpu));
            }
        }
    }

    private static void noSuchCore() {
        for (int cores = 1; cores <= 4; cores++) {
            CoreScheduler s = new CoreScheduler();
            s.reset(cores);
            CHECK.due("leaderOf the last core", s.leaderOf(cores - 1), CoreScheduler.NONE);
            int[] wrong = {cores, 4, -1, Integer.MIN_VALUE, Integer.MAX_VALUE};
            for (int core : wrong) {
                String of = " of core " + core + " on " + cores + " cores";
                CHECK.badArgument("coreCookie" + of, () -> s.coreCookie(core));
                CHECK.badArgument("leaderOf" + of, () -> s.leaderOf(core));
            }
        }
    }
}
