/**
 * The sentences of the document's Description at their edges, a method each, beside those that
 * PickTest, FarTimesTest and ExamplesTest have.
 */
public final class RuleEdgesTest {
    private static final Check CHECK = new Check("RuleEdgesTest");
    private static final int NONE = CoreScheduler.NONE;

    public static void main(String[] args) {
        siblingsAreTwoOfACore();
        orderBySmallestDifference();
        orderOfEqualTimesByNumber();
        createdAtTheGreaterOne();
        emptyCoreLosesItsCookie();
        leaderOfEitherQueue();
        lowerCpuFirst();
        stealsReadyTasksOnly();
        stealsThisCookieOnly();
        stealsFromOtherCoresOnly();
        stealsFromAnyOtherCpu();
        stealsTheSmallestDifference();
        idleOrForcedIdle();
        movedTaskKeepsItsRelativeTime();
        othersAreReadyAfterThePick();
        laterCoresHaveTheirOldStates();
        earlierCoresHaveTheirNewStates();
        everyTaskRunsOrWaits();
        basesOfEmptyQueuesStay();
        baseMeetsTheLeastTime();
        tasksAndCookiesBetweenTicks();
        CHECK.end();
    }

    private static CoreScheduler machine(int cores) {
        CoreScheduler s = new CoreScheduler();
        s.reset(cores);
        return s;
    }

    /** "Core c has two CPUs, 2c and 2c + 1, which are siblings." */
    private static void siblingsAreTwoOfACore() {
        for (int one = 0; one < 8; one++) {
            for (int other = 0; other < 8; other++) {
                CoreScheduler s = machine(4);
                s.createTask(one, 1, 1);
                s.createTask(other, 1, 2);
                int due = one / 2 == other / 2 ? 1 : 2;
                CHECK.due("cookies 1, 2 on CPUs " + one + ", " + other, s.tick(1), due);
                CHECK.due("core of CPU " + one, s.coreCookie(one / 2), 1);
            }
        }
    }

    /** "ordered by their relative times, smaller ones first": 81 and 80 a tick. */
    private static void orderBySmallestDifference() {
        CoreScheduler s = machine(1);
        s.createTask(0, 62, 0);
        s.createTask(0, 63, 0);
        s.createTask(0, 1, 0);
        s.tick(2);
        CHECK.due("virtualTime(0)", s.virtualTime(0), 81);
        CHECK.due("virtualTime(1)", s.virtualTime(1), 80);
        CHECK.due("0", s.queuedTask(0, 0), 2);
        CHECK.due("80", s.queuedTask(0, 1), 1);
        CHECK.due("81", s.queuedTask(0, 2), 0);
        s.sleep(2);
        CHECK.due("80 leads", s.leaderOf(0), 1);
        s.tick(1);
        CHECK.due("80 runs", s.runTicks(1), 2);
    }

    /** "tasks with equal relative times by their numbers", of different CPUs too. */
    private static void orderOfEqualTimesByNumber() {
        CoreScheduler s = machine(4);
        for (int task = 0; task < 16; task++) {
            s.createTask(7 - task % 8, 1, 0);
        }
        for (int core = 0; core < 4; core++) {
            CHECK.due("leader of core " + core, s.leaderOf(core), 6 - 2 * core);
        }
        for (int cpu = 0; cpu < 8; cpu++) {
            CHECK.due("first of CPU " + cpu, s.queuedTask(cpu, 0), 7 - cpu);
            CHECK.due("second of CPU " + cpu, s.queuedTask(cpu, 1), 15 - cpu);
        }
        CoreScheduler two = machine(1);
        two.createTask(0, 1, 1);
        two.tick(1);
        two.createTask(1, 1, 2);
        CHECK.due("times 5040 and 0, bases too", two.leaderOf(0), 0);
    }

    /** "the greater one of its virtual time (0 for a new task) and the base of its CPU" */
    private static void createdAtTheGreaterOne() {
        CoreScheduler s = machine(1);
        s.createTask(0, 64, 0);
        CHECK.due("base 0", s.virtualTime(0), 0);
        s.tick(1);
        s.createTask(0, 1, 0);
        CHECK.due("base 78", s.virtualTime(1), 78);
        s.createTask(1, 1, 0);
        CHECK.due("the sibling's base", s.virtualTime(2), 0);
        s.exit(0);
        s.exit(1);
        s.createTask(0, 1, 0);
        CHECK.due("an empty queue's base", s.virtualTime(3), 78);
    }

    /** "If both queues are empty, both CPUs are idle, and the core has no cookie." */
    private static void emptyCoreLosesItsCookie() {
        CoreScheduler s = machine(1);
        s.createTask(0, 1, 4);
        s.createTask(1, 1, 4);
        s.tick(1);
        s.sleep(0);
        s.sleep(1);
        CHECK.due("tick(1)", s.tick(1), 0);
        CHECK.due("cookie", s.coreCookie(0), NONE);
        CHECK.due("CPU 0 is idle", s.idleTicks(0), 1);
        CHECK.due("CPU 1 is idle", s.idleTicks(1), 1);
        CHECK.due("CPU 0 runs", s.runningTask(0), NONE);
        CHECK.due("CPU 1 runs", s.runningTask(1), NONE);
    }

    /** "the first task .. of the queues of both CPUs of the core together" */
    private static void leaderOfEitherQueue() {
        for (int cpu = 0; cpu < 8; cpu++) {
            CoreScheduler s = machine(4);
            s.createTask(cpu, 1, 3);
            for (int core = 0; core < 4; core++) {
                CHECK.due("leader with CPU " + cpu, s.leaderOf(core), core == cpu / 2 ? 0 : NONE);
            }
            CHECK.due("tick with CPU " + cpu, s.tick(1), 1);
            CHECK.due("CPU " + cpu + " runs", s.runningTask(cpu), 0);
            CHECK.due("its sibling is idle", s.idleTicks(cpu ^ 1), 1);
        }
    }

    /** The leader's CPU always has its leader, so the order shows on no more than what each runs. */
    private static void lowerCpuFirst() {
        CoreScheduler s = machine(2);
        s.createTask(1, 1, 6);
        s.createTask(2, 1, 6);
        s.createTask(3, 1, 6);
        s.setStealing(true);
        CHECK.due("tick(1)", s.tick(1), 3);
        CHECK.due("CPU 0 steals", s.runningTask(0), 1);
        CHECK.due("CPU 1 runs its own", s.runningTask(1), 0);
        CHECK.due("CPU 2 is left without a task", s.runningTask(2), NONE);
        CHECK.due("CPU 3 runs its own", s.runningTask(3), 2);
    }

    /** "there is a READY task with this cookie in the queue of a CPU of another core" */
    private static void stealsReadyTasksOnly() {
        CoreScheduler s = machine(2);
        s.createTask(0, 1, 1);
        s.createTask(2, 1, 1);
        s.createTask(3, 1, 1);
        s.createTask(3, 1, 1);
        s.tick(1);
        s.sleep(2);
        s.exit(3);
        s.setStealing(true);
        s.tick(1);
        CHECK.due("RUNNING, SLEEPING, EXITED stay", s.stolenTasks(), 0);
        CHECK.due("CPU 1 is idle", s.idleTicks(1), 2);
        s.wake(2);
        s.tick(1);
        CHECK.due("a READY one does not", s.stolenTasks(), 1);
        CHECK.due("CPU 1 runs it", s.runningTask(1), 2);
    }

    private static void stealsThisCookieOnly() {
        for (int cookie = 0; cookie <= 9; cookie++) {
            CoreScheduler s = machine(2);
            s.createTask(0, 1, 5);
            s.createTask(2, 1, 3);
            s.createTask(2, 1, cookie);
            s.setStealing(true);
            s.tick(1);
            CHECK.due("cookie " + cookie, s.cpuOf(2), cookie == 5 ? 1 : 2);
            CHECK.due("stolen of cookie " + cookie, s.stolenTasks(), cookie == 5 ? 1 : 0);
        }
    }

    private static void stealsFromOtherCoresOnly() {
        for (int core = 0; core < 4; core++) {
            CoreScheduler s = machine(4);
            s.createTask(2 * core, 1, 0);
            s.createTask(2 * core, 1, 0);
            s.setStealing(true);
            CHECK.due("core " + core, s.tick(2), 2);
            CHECK.due("core " + core + " stole", s.stolenTasks(), 0);
            CHECK.due("core " + core + "'s sibling", s.idleTicks(2 * core + 1), 2);
        }
    }

    /** Every CPU as thief, every CPU of the other cores as the one that loses the task. */
    private static void stealsFromAnyOtherCpu() {
        for (int thief = 0; thief < 8; thief++) {
            for (int from = 0; from < 8; from++) {
                if (thief / 2 == from / 2) {
                    continue;
                }
                CoreScheduler s = machine(4);
                s.createTask(from, 1, 2);
                s.createTask(thief ^ 1, 1, 1);
                s.createTask(from, 1, 1);
                s.setStealing(true);
                String what = "CPU " + thief + " from CPU " + from;
                CHECK.due(what + ", tick(1)", s.tick(1), 3);
                CHECK.due(what, s.cpuOf(2), thief);
                CHECK.due(what + ", runs", s.runningTask(thief), 2);
                CHECK.due(what + ", stolenTasks()", s.stolenTasks(), 1);
            }
        }
    }

    /** "of all such tasks it takes the first one": relative times of 81 and 80 on two CPUs. */
    private static void stealsTheSmallestDifference() {
        CoreScheduler s = machine(3);
        s.createTask(2, 1, 9);
        s.createTask(4, 1, 9);
        s.createTask(2, 62, 9);
        s.createTask(4, 63, 9);
        s.tick(2);
        CHECK.due("virtualTime(2)", s.virtualTime(2), 81);
        CHECK.due("virtualTime(3)", s.virtualTime(3), 80);
        CHECK.due("baseOf(2)", s.baseOf(2), 81);
        s.createTask(0, 1, 5);
        s.sleep(2);
        s.sleep(3);
        s.moveTask(2, 1);
        s.moveTask(3, 1);
        s.setCookie(2, 5);
        s.setCookie(3, 5);
        s.wake(2);
        s.wake(3);
        s.moveTask(2, 2);
        s.moveTask(3, 4);
        CHECK.due("81 above base 81", s.virtualTime(2), 162);
        CHECK.due("80 above base 80", s.virtualTime(3), 160);
        s.setStealing(true);
        s.tick(1);
        CHECK.due("80 is stolen", s.cpuOf(3), 1);
        CHECK.due("81 is not", s.cpuOf(2), 2);
        CHECK.due("80 above base 0, and a turn", s.virtualTime(3), 160);
    }

    /** "it is forced idle if its queue is not empty, and idle otherwise" */
    private static void idleOrForcedIdle() {
        for (int length = 0; length <= 15; length++) {
            CoreScheduler s = machine(1);
            s.createTask(1, 64, 7);
            for (int task = 1; task <= length; task++) {
                s.createTask(0, 1, 8);
            }
            CHECK.due("tick(1) beside " + length, s.tick(1), 1);
            CHECK.due("forced with " + length, s.forcedIdleTicks(0), length == 0 ? 0 : 1);
            CHECK.due("idle with " + length, s.idleTicks(0), length == 0 ? 1 : 0);
        }
    }

    /** "its virtual time becomes its relative time plus the base of the new CPU" */
    private static void movedTaskKeepsItsRelativeTime() {
        CoreScheduler s = machine(2);
        s.createTask(0, 1, 0);
        s.createTask(2, 64, 0);
        s.tick(2);
        s.createTask(0, 1, 0);
        CHECK.due("relative time 0", s.virtualTime(2), 10080);
        s.moveTask(2, 2);
        CHECK.due("to a lower base", s.virtualTime(2), 156);
        s.moveTask(2, 3);
        CHECK.due("to base 0", s.virtualTime(2), 0);
        s.moveTask(2, 0);
        CHECK.due("to a higher base", s.virtualTime(2), 10080);
    }

    /** "A task that runs is RUNNING; all other runnable tasks of a core are READY after its pick." */
    private static void othersAreReadyAfterThePick() {
        CoreScheduler s = machine(1);
        s.createTask(0, 1, 0);
        s.createTask(1, 1, 0);
        s.createTask(0, 1, 1);
        s.createTask(1, 1, 1);
        s.createTask(1, 1, 2);
        s.tick(1);
        int[] first = {1, 1, 0, 0, 0};
        int[] second = {0, 0, 1, 1, 0};
        int[] third = {1, 1, 0, 0, 0};
        checkStates("first", s, first);
        s.tick(1);
        checkStates("second", s, second);
        s.tick(1);
        // CPU 0's base is 5040 now, CPU 1's still 0: tasks 0, 2 and 4 have relative time 0.
        checkStates("third", s, third);
    }

    private static void checkStates(String what, CoreScheduler s, int[] due) {
        for (int task = 0; task < due.length; task++) {
            CHECK.due(what + ", state of " + task, s.stateOf(task), due[task]);
        }
    }

    /** "Tasks of cores that have not been picked yet in this tick have the states .. before" */
    private static void laterCoresHaveTheirOldStates() {
        CoreScheduler s = machine(2);
        s.createTask(2, 1, 1);
        s.createTask(2, 1, 1);
        s.tick(1);
        s.createTask(0, 1, 1);
        s.setStealing(true);
        CHECK.due("RUNNING before the tick", s.stateOf(0), CoreScheduler.RUNNING);
        s.tick(1);
        CHECK.due("the RUNNING one is not stolen", s.cpuOf(0), 2);
        CHECK.due("the READY one is, though it would run now", s.cpuOf(1), 1);
        CHECK.due("so the other one goes on", s.runningTask(2), 0);
    }

    /** A core that has been picked in this tick shows the states that its pick gave. */
    private static void earlierCoresHaveTheirNewStates() {
        CoreScheduler s = machine(2);
        s.createTask(0, 1, 1);
        s.createTask(0, 1, 1);
        s.tick(1);
        s.createTask(2, 1, 1);
        s.setStealing(true);
        CHECK.due("READY before the tick", s.stateOf(1), CoreScheduler.READY);
        s.tick(1);
        CHECK.due("core 0 steals the new one", s.cpuOf(2), 1);
        CHECK.due("core 0 runs the other one now", s.runningTask(0), 1);
        CHECK.due("core 1 has no task, so it steals nothing", s.cpuOf(0), 0);
        s.reset(2);
        s.createTask(0, 1, 1);
        s.createTask(0, 1, 1);
        s.tick(1);
        s.createTask(2, 1, 1);
        s.createTask(1, 1, 1);
        s.setStealing(true);
        s.tick(1);
        CHECK.due("CPU 1 has its own", s.runningTask(1), 3);
        CHECK.due("the one that core 0 has let go is stolen", s.runningTask(3), 0);
        CHECK.due("the one that it runs now is not", s.cpuOf(1), 0);
    }

    /** Step 2, with as many tasks as there can be: each gains one tick of one kind. */
    private static void everyTaskRunsOrWaits() {
        CoreScheduler s = Scene.FULL.build();
        for (int round = 1; round <= 5; round++) {
            int before = sumOfRuns(s);
            int gained = s.tick(1);
            CHECK.due("gained in round " + round, sumOfRuns(s) - before, gained);
            for (int task = 0; task < 16; task++) {
                int sum = s.runTicks(task) + s.waitTicks(task);
                CHECK.due("ticks of " + task + " in round " + round, sum, 7 + round);
            }
        }
    }

    private static int sumOfRuns(CoreScheduler s) {
        int sum = 0;
        for (int task = 0; task < 16; task++) {
            sum += s.runTicks(task);
        }
        return sum;
    }

    /** Step 3: "The base of each CPU whose queue is not empty". */
    private static void basesOfEmptyQueuesStay() {
        CoreScheduler s = machine(2);
        s.createTask(2, 64, 1);
        s.tick(1);
        CHECK.due("base", s.baseOf(2), 78);
        s.sleep(0);
        s.tick(1);
        CHECK.due("asleep", s.baseOf(2), 78);
        s.wake(0);
        s.createTask(0, 1, 1);
        s.setStealing(true);
        s.tick(1);
        CHECK.due("stolen", s.cpuOf(0), 1);
        CHECK.due("a queue that a thief has emptied", s.baseOf(2), 78);
        CHECK.due("the thief's base", s.baseOf(1), 78);
        s.exit(0);
        s.tick(1);
        CHECK.due("exited", s.baseOf(1), 78);
    }

    /** Step 3: "the greater one of itself and the least virtual time", 80, 81 and 82 a tick. */
    private static void baseMeetsTheLeastTime() {
        CoreScheduler s = machine(1);
        s.createTask(0, 61, 0);
        s.createTask(0, 63, 0);
        s.createTask(0, 62, 0);
        long[] due = {0, 0, 80, 81, 82, 160};
        for (int i = 0; i < due.length; i++) {
            s.tick(1);
            CHECK.due("base after tick " + i, s.baseOf(0), due[i]);
        }
        CHECK.due("the least time", s.virtualTime(1), 160);
        CHECK.due("the next one", s.virtualTime(2), 162);
    }

    /** "Between ticks a CPU runs the task that its latest pick has given to it, unless .." */
    private static void tasksAndCookiesBetweenTicks() {
        CoreScheduler s = machine(1);
        s.createTask(0, 1, 4);
        s.createTask(1, 1, 4);
        s.tick(1);
        s.setCookie(0, 5);
        s.setWeight(0, 64);
        s.createTask(0, 1, 4);
        CHECK.due("a changed task goes on", s.runningTask(0), 0);
        CHECK.due("RUNNING", s.stateOf(0), CoreScheduler.RUNNING);
        CHECK.due("the cookie stays", s.coreCookie(0), 4);
        s.sleep(1);
        CHECK.due("asleep", s.runningTask(1), NONE);
        CHECK.due("the sibling goes on", s.runningTask(0), 0);
        s.exit(0);
        CHECK.due("exited", s.runningTask(0), NONE);
        CHECK.due("the cookie stays without tasks", s.coreCookie(0), 4);
        s.wake(1);
        s.moveTask(1, 0);
        CHECK.due("woken and moved here", s.runningTask(0), NONE);
        s.tick(1);
        CHECK.due("the next pick", s.runningTask(0), 1);
        CHECK.due("a tie with the new one, which waits", s.waitTicks(2), 1);
    }
}
