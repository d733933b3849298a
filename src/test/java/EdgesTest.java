/**
 * The answers of the promises at their edges, a method for each sentence: the ends of each range
 * and what they do, empty and full, 'NONE if ..' and '0.0 if ..'. What is refused is RefusedTest's.
 */
public final class EdgesTest {
    private static final Check CHECK = new Check("EdgesTest");
    private static final int NONE = CoreScheduler.NONE;

    public static void main(String[] args) {
        newObjectStealsNothing();
        resetReturnsThePreviousNumber();
        resetClearsAllCounters();
        resetDisablesStealing();
        setStealingMattersFromTheNextPick();
        tickOfManyIsManyTicks();
        tickReturnsNothingToEverything();
        createTaskUpToSixteen();
        createTaskNumbersAreNotUsedAgain();
        createTaskIsReady();
        sleepOfAllTasks();
        wakeReturnsTheNewTime();
        exitOfAllTasks();
        setWeightEnds();
        setCookieEnds();
        moveTaskToEveryCpu();
        moveTaskToItsOwnCpu();
        taskCountEmptyToFull();
        shareIsZeroForASumOfZero();
        shareEnds();
        runningTaskNone();
        coreCookieNone();
        leaderOfNone();
        queueEmptyToFull();
        baseInitiallyZero();
        idleAndForcedIdle();
        stolenTasksSinceTheReset();
        questionsChangeNothing();
        lastOfFiveHundredTwelveCalls();
        CHECK.end();
    }

    private static CoreScheduler machine(int cores) {
        CoreScheduler s = new CoreScheduler();
        s.reset(cores);
        return s;
    }

    /** Weight 1 and cookie 0 for each task. */
    private static CoreScheduler machine(int cores, int... cpus) {
        CoreScheduler s = machine(cores);
        for (int cpu : cpus) {
            s.createTask(cpu, 1, 0);
        }
        return s;
    }

    // ---- promises 1 to 4

    private static void newObjectStealsNothing() {
        CoreScheduler s = new CoreScheduler();
        s.createTask(0, 1, 5);
        s.createTask(2, 1, 5);
        s.createTask(2, 1, 5);
        CHECK.due("a new object, tick(1)", s.tick(1), 2);
        CHECK.due("a new object, stolenTasks()", s.stolenTasks(), 0);
    }

    private static void resetReturnsThePreviousNumber() {
        for (int before = 1; before <= 4; before++) {
            for (int after = 1; after <= 4; after++) {
                CoreScheduler s = machine(before);
                String what = "reset from " + before + " to " + after;
                CHECK.due(what, s.reset(after), before);
                CHECK.due(what + ", cores", Snapshot.coresOf(s), after);
            }
        }
    }

    /** Whatever the rows held before, a reset machine is as a new one, also when it runs on. */
    private static void resetClearsAllCounters() {
        for (Scene scene : Scene.values()) {
            for (int cores = 1; cores <= 4; cores++) {
                resetClears(scene, cores);
            }
            CoreScheduler widened = scene.build();
            widened.reset(1);
            widened.reset(4);
            String what = scene + ": reset(1), reset(4)";
            CHECK.due(what, Snapshot.of(widened), Snapshot.of(machine(4)));
        }
    }

    private static void resetClears(Scene scene, int cores) {
        String what = scene + ": reset(" + cores + ")";
        CoreScheduler used = scene.build();
        used.reset(cores);
        CHECK.due(what, Snapshot.of(used), Snapshot.of(machine(cores)));
        CoreScheduler later = scene.build();
        later.reset(cores);
        CoreScheduler fresh = machine(cores);
        CHECK.due(what + ", tick(2)", later.tick(2), fresh.tick(2));
        CHECK.due(what + ", createTask", later.createTask(0, 7, 1), fresh.createTask(0, 7, 1));
        CHECK.due(what + ", tick(3)", later.tick(3), fresh.tick(3));
        CHECK.due(what + ", later", Snapshot.of(later), Snapshot.of(fresh));
    }

    private static void resetDisablesStealing() {
        CoreScheduler s = new CoreScheduler();
        s.setStealing(true);
        s.reset(2);
        s.createTask(0, 1, 5);
        s.createTask(2, 1, 5);
        s.tick(1);
        CHECK.due("nothing is stolen after a reset", s.stolenTasks(), 0);
        CHECK.due("stealing after a reset", s.setStealing(true), false);
    }

    private static void setStealingMattersFromTheNextPick() {
        CoreScheduler s = machine(2, 0, 2, 2);
        s.tick(1);
        s.setStealing(true);
        CHECK.due("not before a pick", s.stolenTasks(), 0);
        CHECK.due("enabled, tick(1)", s.tick(1), 3);
        CHECK.due("enabled", s.stolenTasks(), 1);
        CHECK.due("the stolen one", s.cpuOf(2), 1);
        s.sleep(2);
        s.moveTask(2, 2);
        s.wake(2);
        s.setStealing(false);
        CHECK.due("disabled, tick(1)", s.tick(1), 2);
        CHECK.due("disabled", s.stolenTasks(), 1);
    }

    private static void tickOfManyIsManyTicks() {
        for (Scene scene : Scene.values()) {
            CoreScheduler whole = scene.build();
            CoreScheduler parts = scene.build();
            int sum = 0;
            for (int i = 0; i < 100; i++) {
                sum += parts.tick(1);
            }
            CHECK.due(scene + ": tick(100)", whole.tick(100), sum);
            CHECK.due(scene + ": after it", Snapshot.of(whole), Snapshot.of(parts));
        }
    }

    private static void tickReturnsNothingToEverything() {
        for (int cores = 1; cores <= 4; cores++) {
            CoreScheduler s = machine(cores);
            CHECK.due("no task", s.tick(100), 0);
            for (int cpu = 0; cpu < 2 * cores; cpu++) {
                s.createTask(cpu, 1, 0);
                CHECK.due(cpu + 1 + " busy CPUs of " + cores + " cores", s.tick(1), cpu + 1);
            }
            CHECK.due("all CPUs of " + cores + " cores", s.tick(100), 200 * cores);
        }
        CoreScheduler crowd = machine(1, new int[16]);
        CHECK.due("sixteen tasks on one CPU", crowd.tick(100), 100);
        CHECK.due("the first one runs 7 of them", crowd.runTicks(0), 7);
        CHECK.due("the last one runs 6 of them", crowd.runTicks(15), 6);
        CHECK.due("and waits in all others", crowd.waitTicks(15), 94);
    }

    // ---- promises 5 to 8

    private static void createTaskUpToSixteen() {
        CoreScheduler s = machine(4);
        for (int task = 0; task < 16; task++) {
            CHECK.due("number of task " + task, s.createTask(task / 2, 64, 9), task);
        }
        CHECK.due("the last one's CPU", s.cpuOf(15), 7);
        CHECK.due("all CPUs run one", s.tick(1), 8);
        CHECK.due("the last one waits", s.waitTicks(15), 1);
        CHECK.due("then all the others", s.tick(1), 8);
        CHECK.due("the last one runs", s.runningTask(7), 15);
    }

    private static void createTaskNumbersAreNotUsedAgain() {
        CoreScheduler s = machine(2, 0, 1);
        s.exit(0);
        CHECK.due("after an exit", s.createTask(0, 1, 0), 2);
        s.exit(1);
        s.exit(2);
        CHECK.due("after all exits", s.createTask(0, 1, 0), 3);
        CHECK.due("the first one stays", s.stateOf(0), CoreScheduler.EXITED);
    }

    private static void createTaskIsReady() {
        CoreScheduler s = machine(2, 3);
        CHECK.due("state", s.stateOf(0), CoreScheduler.READY);
        CHECK.due("its CPU runs nothing yet", s.runningTask(3), NONE);
        CHECK.due("run ticks", s.runTicks(0), 0);
        CHECK.due("wait ticks", s.waitTicks(0), 0);
        CHECK.due("virtual time", s.virtualTime(0), 0);
    }

    private static void sleepOfAllTasks() {
        CoreScheduler s = machine(2, 0, 1, 1);
        s.tick(1);
        CHECK.due("sleep, RUNNING", s.sleep(0), CoreScheduler.RUNNING);
        CHECK.due("sleep, RUNNING on the sibling", s.sleep(1), CoreScheduler.RUNNING);
        CHECK.due("sleep, READY", s.sleep(2), CoreScheduler.READY);
        CHECK.due("nobody runs", s.tick(3), 0);
        CHECK.due("both are idle", s.idleTicks(0) + s.idleTicks(1), 6);
        CHECK.due("and not forced", s.forcedIdleTicks(0) + s.forcedIdleTicks(1), 0);
        CHECK.due("no leader", s.leaderOf(0), NONE);
    }

    /** A time one below the base of the CPU, equal to it, and one above it: 82, 81 and 80 a tick. */
    private static void wakeReturnsTheNewTime() {
        int[][] cases = {{63, 62, 81}, {62, 62, 81}, {62, 63, 81}, {61, 63, 82}, {63, 61, 82}};
        for (int[] c : cases) {
            CoreScheduler s = new CoreScheduler();
            s.createTask(2, c[0], 1);
            s.createTask(0, c[1], 1);
            s.tick(1);
            s.sleep(0);
            s.moveTask(0, 0);
            String what = "time of " + s.virtualTime(0) + ", base of " + s.baseOf(0);
            CHECK.due(what, s.wake(0), c[2]);
            CHECK.due(what + ", virtualTime", s.virtualTime(0), c[2]);
            CHECK.due(what + ", state", s.stateOf(0), CoreScheduler.READY);
        }
        CHECK.due("never run, base 0", wokenOn(0, 0), 0);
        CHECK.due("never run, base 5040", wokenOn(0, 1), 5040);
    }

    /** A task that never ran sleeps on CPU 0 while another one runs for some ticks. */
    private static long wokenOn(int cpu, int ticks) {
        CoreScheduler s = machine(2, cpu, cpu);
        s.sleep(0);
        if (ticks > 0) {
            s.tick(ticks);
        }
        return s.wake(0);
    }

    private static void exitOfAllTasks() {
        CoreScheduler s = Scene.FULL.build();
        for (int task = 0; task < 16; task++) {
            int state = s.stateOf(task);
            CHECK.due("exit(" + task + ")", s.exit(task), state);
        }
        CHECK.due("taskCount()", s.taskCount(), 16);
        for (int cpu = 0; cpu < 8; cpu++) {
            CHECK.due("queue of " + cpu, s.queueLength(cpu), 0);
            CHECK.due("CPU " + cpu + " runs", s.runningTask(cpu), NONE);
        }
        int run = s.runTicks(7);
        int waited = s.waitTicks(7);
        long time = s.virtualTime(7);
        CHECK.due("tick(100)", s.tick(100), 0);
        CHECK.due("run ticks are kept", s.runTicks(7), run);
        CHECK.due("wait ticks are kept", s.waitTicks(7), waited);
        CHECK.due("the time is kept", s.virtualTime(7), time);
        CHECK.due("exit of one asleep", machineWithSleeper().exit(0), CoreScheduler.SLEEPING);
    }

    private static CoreScheduler machineWithSleeper() {
        CoreScheduler s = machine(1, 0);
        s.sleep(0);
        return s;
    }

    // ---- promises 9 to 11

    private static void setWeightEnds() {
        CoreScheduler s = machine(1, 0);
        CHECK.due("setWeight(0, 64)", s.setWeight(0, 64), 1);
        s.tick(1);
        CHECK.due("5040 / 64", s.virtualTime(0), 78);
        CHECK.due("the same weight", s.setWeight(0, 64), 64);
        CHECK.due("setWeight(0, 1)", s.setWeight(0, 1), 64);
        CHECK.due("the time stays", s.virtualTime(0), 78);
        s.tick(1);
        CHECK.due("5040 / 1", s.virtualTime(0), 78 + 5040);
    }

    private static void setCookieEnds() {
        CoreScheduler s = machine(1, 0, 1);
        CHECK.due("setCookie(0, 9)", s.setCookie(0, 9), 0);
        CHECK.due("the cookies differ", s.tick(1), 1);
        CHECK.due("cookie 9", s.coreCookie(0), 9);
        CHECK.due("setCookie(1, 9)", s.setCookie(1, 9), 0);
        CHECK.due("both have 9", s.tick(1), 2);
        CHECK.due("setCookie(0, 0)", s.setCookie(0, 0), 9);
        CHECK.due("the same cookie", s.setCookie(0, 0), 0);
        CHECK.due("not before the next pick", s.coreCookie(0), 9);
        CHECK.due("both go on", s.runningTask(0) + s.runningTask(1), 1);
        s.setCookie(1, 0);
        CHECK.due("both have 0", s.tick(1), 2);
        CHECK.due("cookie 0", s.coreCookie(0), 0);
    }

    private static void moveTaskToEveryCpu() {
        for (int cores = 1; cores <= 4; cores++) {
            CoreScheduler s = machine(cores, 0, 0);
            s.sleep(1);
            int before = 0;
            for (int cpu = 2 * cores - 1; cpu >= 0; cpu--) {
                String to = " to CPU " + cpu + " of " + cores + " cores";
                CHECK.due("READY" + to, s.moveTask(0, cpu), before);
                CHECK.due("SLEEPING" + to, s.moveTask(1, cpu), before);
                CHECK.due("READY is there" + to, s.cpuOf(0), cpu);
                CHECK.due("SLEEPING is there" + to, s.cpuOf(1), cpu);
                CHECK.due("one of them is queued" + to, s.queueLength(cpu), 1);
                before = cpu;
            }
        }
    }

    private static void moveTaskToItsOwnCpu() {
        CoreScheduler s = machine(2, 0, 0);
        s.tick(2);
        s.tick(1);
        CHECK.due("READY, time", s.virtualTime(1), 5040);
        CHECK.due("READY", s.moveTask(1, 0), 0);
        CHECK.due("READY, time stays", s.virtualTime(1), 5040);
        CHECK.due("READY, still", s.stateOf(1), CoreScheduler.READY);
        s.sleep(1);
        s.tick(1);
        CHECK.due("base above its time", s.baseOf(0), 15120);
        CHECK.due("SLEEPING", s.moveTask(1, 0), 0);
        CHECK.due("SLEEPING, time stays", s.virtualTime(1), 5040);
        CHECK.due("SLEEPING, still", s.stateOf(1), CoreScheduler.SLEEPING);
    }

    // ---- promises 12 to 18

    private static void taskCountEmptyToFull() {
        CoreScheduler s = new CoreScheduler();
        for (int count = 0; count < 16; count++) {
            CHECK.due("taskCount() of " + count, s.taskCount(), count);
            s.createTask(0, 1, 0);
        }
        CHECK.due("taskCount() of 16", s.taskCount(), 16);
        CHECK.badState("a 17th one", () -> s.createTask(0, 1, 0));
        CHECK.due("taskCount() of 16 still", s.taskCount(), 16);
    }

    private static void shareIsZeroForASumOfZero() {
        CoreScheduler s = machine(1, 0, 0, 0);
        CHECK.due("READY", s.share(0), 0.0);
        s.sleep(0);
        CHECK.due("SLEEPING", s.share(0), 0.0);
        s.exit(1);
        CHECK.due("EXITED", s.share(1), 0.0);
        s.tick(5);
        CHECK.due("SLEEPING for five ticks", s.share(0), 0.0);
        CHECK.due("EXITED for five ticks", s.share(1), 0.0);
        s.wake(0);
        CHECK.due("woken", s.share(0), 0.0);
    }

    private static void shareEnds() {
        CoreScheduler s = machine(1, 0, 1);
        s.setCookie(1, 1);
        s.tick(100);
        CHECK.due("always ran", s.share(0), 1.0);
        CHECK.due("always waited", s.share(1), 0.0);
        CHECK.due("wait ticks", s.waitTicks(1), 100);
        s.sleep(0);
        s.tick(1);
        CHECK.due("one tick of 101", s.share(1), 1.0 / 101.0);
        s.wake(0);
        s.setCookie(1, 0);
        s.sleep(1);
        s.tick(1);
        CHECK.due("sleep does not count", s.share(1), 1.0 / 101.0);
    }

    // ---- promises 19 to 27

    private static void runningTaskNone() {
        CHECK.due("a new object", new CoreScheduler().runningTask(3), NONE);
        CoreScheduler s = Scene.MIXED.build();
        CHECK.due("idle", s.runningTask(Scene.IDLE_CPU), NONE);
        CHECK.due("forced idle", s.runningTask(Scene.FORCED_IDLE_CPU), NONE);
        CHECK.due("the thief", s.runningTask(Scene.THIEF_CPU), Scene.STOLEN_TASK);
        CHECK.due("task 0 is a task", s.runningTask(0), 0);
        s.sleep(0);
        CHECK.due("put to sleep", s.runningTask(0), NONE);
        s.wake(0);
        CHECK.due("and woken", s.runningTask(0), NONE);
        s.exit(Scene.STOLEN_TASK);
        CHECK.due("exited", s.runningTask(Scene.THIEF_CPU), NONE);
        s.reset(3);
        CHECK.due("reset", s.runningTask(2), NONE);
    }

    private static void coreCookieNone() {
        CHECK.due("a new object", new CoreScheduler().coreCookie(1), NONE);
        CoreScheduler s = machine(2, 1);
        CHECK.due("no pick yet", s.coreCookie(0), NONE);
        s.tick(1);
        CHECK.due("one queue is empty", s.coreCookie(0), 0);
        CHECK.due("both queues are empty", s.coreCookie(1), NONE);
        s.exit(0);
        CHECK.due("until the next pick", s.coreCookie(0), 0);
        s.createTask(2, 1, 9);
        CHECK.due("until the next pick of the other", s.coreCookie(1), NONE);
        s.tick(1);
        CHECK.due("after it", s.coreCookie(0), NONE);
        CHECK.due("after it, the other", s.coreCookie(1), 9);
        s.reset(2);
        CHECK.due("reset", s.coreCookie(1), NONE);
    }

    private static void leaderOfNone() {
        CoreScheduler s = machine(4, 0, 3, 4, 5);
        CHECK.due("only the lower queue", s.leaderOf(0), 0);
        CHECK.due("only the upper queue", s.leaderOf(1), 1);
        CHECK.due("both queues", s.leaderOf(2), 2);
        CHECK.due("no queue", s.leaderOf(3), NONE);
        s.sleep(2);
        CHECK.due("the lower one asleep", s.leaderOf(2), 3);
        s.exit(3);
        CHECK.due("the upper one exited", s.leaderOf(2), NONE);
        CHECK.due("a leader before any pick", s.coreCookie(0), NONE);
    }

    private static void queueEmptyToFull() {
        CoreScheduler s = machine(4);
        for (int task = 0; task < 16; task++) {
            CHECK.due("length " + task, s.queueLength(7), task);
            s.createTask(7, 1, 0);
        }
        CHECK.due("length 16", s.queueLength(7), 16);
        CHECK.due("the first position", s.queuedTask(7, 0), 0);
        CHECK.due("the last position", s.queuedTask(7, 15), 15);
        CHECK.badIndex("behind it", () -> s.queuedTask(7, 16));
        CHECK.badIndex("before the first one", () -> s.queuedTask(7, -1));
        s.tick(1);
        CHECK.due("the one that ran is last", s.queuedTask(7, 15), 0);
        CHECK.due("a RUNNING task is queued", s.queueLength(7), 16);
        for (int task = 0; task < 15; task++) {
            s.exit(task);
        }
        CHECK.due("one is left", s.queuedTask(7, 0), 15);
        s.sleep(15);
        CHECK.due("empty again", s.queueLength(7), 0);
        CHECK.badIndex("nothing is left", () -> s.queuedTask(7, 0));
    }

    private static void baseInitiallyZero() {
        CoreScheduler s = machine(4);
        s.tick(100);
        for (int cpu = 0; cpu < 8; cpu++) {
            CHECK.due("base of idle CPU " + cpu, s.baseOf(cpu), 0);
        }
        s.createTask(7, 64, 0);
        CHECK.due("not before a tick", s.baseOf(7), 0);
        s.tick(1);
        CHECK.due("the last CPU's", s.baseOf(7), 78);
    }

    private static void idleAndForcedIdle() {
        CoreScheduler s = machine(4, 6, 7, 7);
        s.setCookie(1, 1);
        s.setCookie(2, 2);
        CHECK.due("tick(100)", s.tick(100), 100);
        for (int cpu = 0; cpu < 6; cpu++) {
            CHECK.due("idle CPU " + cpu, s.idleTicks(cpu), 100);
            CHECK.due("not forced, CPU " + cpu, s.forcedIdleTicks(cpu), 0);
        }
        CHECK.due("the busy one", s.idleTicks(6) + s.forcedIdleTicks(6), 0);
        CHECK.due("forced with two tasks", s.forcedIdleTicks(7), 100);
        CHECK.due("forced is not idle", s.idleTicks(7), 0);
        s.sleep(1);
        s.tick(1);
        CHECK.due("forced with one task", s.forcedIdleTicks(7), 101);
        s.sleep(2);
        s.tick(1);
        CHECK.due("without a task it is idle", s.idleTicks(7), 1);
        CHECK.due("and no longer forced", s.forcedIdleTicks(7), 101);
    }

    private static void stolenTasksSinceTheReset() {
        CoreScheduler s = machine(2, 0, 2);
        s.setStealing(true);
        CHECK.due("at first", s.stolenTasks(), 0);
        s.tick(1);
        CHECK.due("once", s.stolenTasks(), 1);
        s.tick(100);
        CHECK.due("it stays with the thief", s.stolenTasks(), 1);
        CHECK.badArgument("a refused reset", () -> s.reset(5));
        CHECK.due("still once", s.stolenTasks(), 1);
        s.reset(2);
        CHECK.due("after a reset", s.stolenTasks(), 0);
    }

    // ---- all of them

    private static void questionsChangeNothing() {
        for (Scene scene : Scene.values()) {
            CoreScheduler asked = scene.build();
            CoreScheduler plain = scene.build();
            for (int core = 0; core < scene.cores; core++) {
                asked.coreCookie(core);
                asked.leaderOf(core);
            }
            for (int cpu = 0; cpu < scene.cpus(); cpu++) {
                asked.runningTask(cpu);
                asked.baseOf(cpu);
                asked.idleTicks(cpu);
                asked.forcedIdleTicks(cpu);
                for (int index = 0; index < asked.queueLength(cpu); index++) {
                    asked.queuedTask(cpu, index);
                }
            }
            for (int task = 0; task < asked.taskCount(); task++) {
                asked.stateOf(task);
                asked.cpuOf(task);
                asked.virtualTime(task);
                asked.share(task);
            }
            CHECK.due(scene + ", tick(5)", asked.tick(5), plain.tick(5));
            CHECK.due(scene + ", asked", Snapshot.of(asked), Snapshot.of(plain));
        }
    }

    /** The most ticks that an object can be asked for: its counters hold them all. */
    private static void lastOfFiveHundredTwelveCalls() {
        CoreScheduler s = new CoreScheduler();
        s.createTask(0, 1, 0);
        s.createTask(1, 1, 1);
        for (int call = 3; call <= 506; call++) {
            CHECK.due("call " + call, s.tick(100), 100);
        }
        CHECK.due("call 507", s.runTicks(0), 50_400);
        CHECK.due("call 508", s.waitTicks(1), 50_400);
        CHECK.due("call 509", s.virtualTime(0), 254_016_000L);
        CHECK.due("call 510", s.forcedIdleTicks(1), 50_400);
        CHECK.due("call 511", s.idleTicks(3), 50_400);
        CHECK.due("call 512", s.share(0), 1.0);
    }
}
