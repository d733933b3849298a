/** The rules that the methods share: the order, the pick, stealing, the steps of a tick. */
public final class PickTest {
    private static final Check CHECK = new Check("PickTest");

    public static void main(String[] args) {
        siblingsShareTheCookie();
        firstMatchingTaskRuns();
        orderComparesRelativeTimes();
        forcedIdleOutlivesTheft();
        runningTasksAreNotStolen();
        releasedTasksAreStolen();
        stealsTheFirstInOrder();
        stolenTaskKeepsRelativeTime();
        neverStealsFromSibling();
        ownTaskBeforeTheft();
        thievesOfSeveralCores();
        stealsInsteadOfForcedIdle();
        idleCoreStealsNothing();
        oneCoreStealsNothing();
        costsAreRoundedDown();
        CHECK.end();
    }

    private static void siblingsShareTheCookie() {
        CoreScheduler s = new CoreScheduler();
        s.createTask(1, 1, 7);
        s.createTask(0, 1, 8);
        s.createTask(0, 1, 7);
        s.createTask(1, 1, 9);
        s.tick(1);
        CHECK.due("the leader sits on CPU 1", s.runningTask(1), 0);
        CHECK.due("CPU 0 passes over its first task", s.runningTask(0), 2);
        CHECK.due("the passed one waits", s.waitTicks(1), 1);
        CHECK.due("coreCookie(0)", s.coreCookie(0), 7);
        s.tick(1);
        CHECK.due("the one that waited leads", s.runningTask(0), 1);
        CHECK.due("coreCookie(0) later", s.coreCookie(0), 8);
        CHECK.due("CPU 1 runs nothing", s.runningTask(1), CoreScheduler.NONE);
        CHECK.due("CPU 1 is forced idle", s.forcedIdleTicks(1), 1);
    }

    private static void firstMatchingTaskRuns() {
        CoreScheduler s = new CoreScheduler();
        s.createTask(1, 1, 2);
        s.createTask(0, 1, 2);
        s.createTask(0, 2, 2);
        s.createTask(0, 64, 1);
        int[] due = {1, 2, 2, 1, 2};
        for (int i = 0; i < due.length; i++) {
            s.tick(1);
            CHECK.due("the leader in tick " + i, s.runningTask(1), 0);
            CHECK.due("first match of CPU 0 in tick " + i, s.runningTask(0), due[i]);
        }
        CHECK.due("the first of the queue does not match", s.queuedTask(0, 0), 3);
        CHECK.due("so it waits", s.waitTicks(3), due.length);
    }

    private static void orderComparesRelativeTimes() {
        CoreScheduler s = new CoreScheduler();
        s.createTask(0, 1, 1);
        s.tick(2);
        s.createTask(1, 1, 2);
        s.createTask(1, 1, 2);
        CHECK.due("virtualTime(0)", s.virtualTime(0), 10080);
        CHECK.due("relative time 0 for all: the lower number", s.leaderOf(0), 0);
        s.tick(1);
        CHECK.due("CPU 0 alone raises its base", s.baseOf(0), 15120);
        CHECK.due("the time 15120 still leads", s.leaderOf(0), 0);
        s.createTask(0, 1, 3);
        s.tick(1);
        CHECK.due("a relative time of 5040 does not lead", s.leaderOf(0), 1);
    }

    private static void forcedIdleOutlivesTheft() {
        CoreScheduler s = new CoreScheduler();
        s.setStealing(true);
        s.createTask(0, 1, 1);
        s.createTask(1, 1, 2);
        s.createTask(2, 1, 2);
        CHECK.due("tick(1)", s.tick(1), 3);
        CHECK.due("CPU 3 stole", s.cpuOf(1), 3);
        CHECK.due("the queue of CPU 1 is empty", s.queueLength(1), 0);
        CHECK.due("forcedIdleTicks(1)", s.forcedIdleTicks(1), 1);
        CHECK.due("idleTicks(1)", s.idleTicks(1), 0);
        CHECK.due("a stolen task does not wait", s.waitTicks(1), 0);
    }

    private static void runningTasksAreNotStolen() {
        CoreScheduler s = new CoreScheduler();
        s.createTask(0, 1, 1);
        s.createTask(2, 1, 1);
        s.createTask(2, 1, 1);
        s.createTask(2, 1, 1);
        s.tick(1);
        CHECK.due("stateOf(1)", s.stateOf(1), CoreScheduler.RUNNING);
        s.setStealing(true);
        s.setWeight(2, 2);
        s.tick(1);
        CHECK.due("task 1 was RUNNING before the tick", s.cpuOf(1), 2);
        CHECK.due("CPU 1 takes a READY one", s.runningTask(1), 2);
        CHECK.due("core 1 goes on with the next", s.runningTask(2), 3);
        CHECK.due("CPU 3 finds only tasks that run or its sibling's", s.idleTicks(3), 2);
        CHECK.due("stolenTasks()", s.stolenTasks(), 1);
    }

    private static void releasedTasksAreStolen() {
        CoreScheduler s = new CoreScheduler();
        s.createTask(0, 1, 1);
        s.createTask(0, 1, 1);
        s.createTask(2, 1, 1);
        s.tick(1);
        s.setStealing(true);
        s.tick(1);
        CHECK.due("core 0 has picked task 1", s.runningTask(0), 1);
        CHECK.due("task 0 ran before; core 1 takes it", s.runningTask(3), 0);
        CHECK.due("cpuOf(0)", s.cpuOf(0), 3);
        CHECK.due("task 2 was RUNNING when core 0 looked", s.cpuOf(2), 2);
        CHECK.due("idleTicks(1)", s.idleTicks(1), 2);
    }

    private static void stealsTheFirstInOrder() {
        CoreScheduler s = new CoreScheduler();
        s.reset(3);
        s.createTask(2, 1, 9);
        s.createTask(4, 1, 9);
        s.createTask(4, 1, 8);
        s.tick(3);
        CHECK.due("baseOf(2)", s.baseOf(2), 15120);
        CHECK.due("baseOf(4)", s.baseOf(4), 5040);
        CHECK.due("virtualTime(1)", s.virtualTime(1), 10080);
        s.createTask(2, 1, 5);
        s.createTask(4, 1, 5);
        s.createTask(0, 1, 5);
        s.sleep(1);
        s.setCookie(1, 5);
        s.wake(1);
        s.setStealing(true);
        s.tick(1);
        CHECK.due("ties of relative time by number, not by time", s.cpuOf(3), 1);
        CHECK.due("its time", s.virtualTime(3), 5040);
        CHECK.due("stolenTasks()", s.stolenTasks(), 1);
        CHECK.due("task 1 has relative time 5040", s.cpuOf(1), 4);
    }

    private static void stolenTaskKeepsRelativeTime() {
        CoreScheduler s = new CoreScheduler();
        s.createTask(2, 1, 3);
        s.createTask(2, 2, 3);
        s.createTask(0, 3, 3);
        s.createTask(1, 8, 3);
        s.tick(3);
        CHECK.due("baseOf(1)", s.baseOf(1), 1890);
        CHECK.due("baseOf(2)", s.baseOf(2), 5040);
        CHECK.due("virtualTime(0)", s.virtualTime(0), 5040);
        s.sleep(0);
        s.sleep(3);
        s.setCookie(1, 4);
        s.wake(0);
        s.setWeight(0, 7);
        s.tick(1);
        CHECK.due("virtualTime(0) after a turn", s.virtualTime(0), 5760);
        s.sleep(0);
        s.wake(0);
        s.setStealing(true);
        s.tick(1);
        CHECK.due("stolen by CPU 1", s.cpuOf(0), 1);
        CHECK.due("720 above the new base, and a turn", s.virtualTime(0), 1890 + 720 + 720);
        CHECK.due("the base follows", s.baseOf(1), 1890 + 720 + 720);
    }

    private static void neverStealsFromSibling() {
        CoreScheduler s = new CoreScheduler();
        s.setStealing(true);
        s.createTask(0, 1, 4);
        s.createTask(0, 1, 4);
        CHECK.due("tick(4)", s.tick(4), 4);
        CHECK.due("stolenTasks()", s.stolenTasks(), 0);
        CHECK.due("idleTicks(1)", s.idleTicks(1), 4);
        CHECK.due("cpuOf(1)", s.cpuOf(1), 0);
    }

    private static void ownTaskBeforeTheft() {
        CoreScheduler s = new CoreScheduler();
        s.createTask(0, 1, 4);
        s.createTask(1, 1, 4);
        s.tick(2);
        s.createTask(2, 64, 4);
        s.sleep(1);
        s.wake(1);
        s.setStealing(true);
        s.tick(1);
        CHECK.due("CPU 1 runs its own", s.runningTask(1), 1);
        CHECK.due("stolenTasks()", s.stolenTasks(), 0);
    }

    private static void thievesOfSeveralCores() {
        CoreScheduler s = new CoreScheduler();
        s.reset(4);
        s.createTask(0, 1, 6);
        s.createTask(1, 1, 5);
        s.createTask(4, 1, 5);
        s.createTask(6, 1, 5);
        s.sleep(0);
        s.setStealing(true);
        s.tick(1);
        CHECK.due("CPU 0 is empty and takes the first", s.runningTask(0), 2);
        CHECK.due("CPU 1 runs its own", s.runningTask(1), 1);
        s.reset(3);
        s.createTask(1, 1, 5);
        s.createTask(0, 1, 6);
        s.createTask(4, 1, 5);
        s.createTask(5, 1, 5);
        s.createTask(2, 1, 5);
        s.setStealing(true);
        s.tick(1);
        CHECK.due("core 0: CPU 0 steals task 2", s.runningTask(0), 2);
        CHECK.due("core 1: CPU 2 runs its own", s.runningTask(2), 4);
        CHECK.due("core 1: CPU 3 steals task 3", s.runningTask(3), 3);
        CHECK.due("core 2 is left without tasks", s.coreCookie(2), CoreScheduler.NONE);
        CHECK.due("idleTicks(4)", s.idleTicks(4), 1);
        CHECK.due("stolenTasks()", s.stolenTasks(), 2);
    }

    private static void stealsInsteadOfForcedIdle() {
        CoreScheduler s = new CoreScheduler();
        s.setStealing(true);
        s.createTask(0, 1, 1);
        s.createTask(1, 1, 2);
        s.createTask(3, 1, 1);
        CHECK.due("tick(1)", s.tick(1), 2);
        CHECK.due("CPU 1 runs the stolen task", s.runningTask(1), 2);
        CHECK.due("forcedIdleTicks(1)", s.forcedIdleTicks(1), 0);
        CHECK.due("queueLength(1)", s.queueLength(1), 2);
        CHECK.due("baseOf(1) stays at the one that waits", s.baseOf(1), 0);
    }

    private static void idleCoreStealsNothing() {
        CoreScheduler s = new CoreScheduler();
        s.setStealing(true);
        s.createTask(2, 1, 0);
        s.createTask(2, 1, 0);
        s.createTask(3, 1, 1);
        s.tick(5);
        CHECK.due("stolenTasks()", s.stolenTasks(), 0);
        CHECK.due("idleTicks(0)", s.idleTicks(0), 5);
        CHECK.due("coreCookie(0)", s.coreCookie(0), CoreScheduler.NONE);
    }

    private static void oneCoreStealsNothing() {
        CoreScheduler s = new CoreScheduler();
        s.reset(1);
        s.setStealing(true);
        s.createTask(0, 1, 1);
        s.createTask(1, 1, 2);
        s.createTask(1, 1, 3);
        CHECK.due("tick(6)", s.tick(6), 6);
        CHECK.due("stolenTasks()", s.stolenTasks(), 0);
        CHECK.due("forced idle in all", s.forcedIdleTicks(0) + s.forcedIdleTicks(1), 6);
    }

    private static void costsAreRoundedDown() {
        for (int weight = 1; weight <= 64; weight++) {
            CoreScheduler s = new CoreScheduler();
            s.createTask(0, weight, 1);
            s.tick(10);
            long cost = (long) Math.floor(5040.0 / weight);
            CHECK.due("ten turns of weight " + weight, s.virtualTime(0), 10 * cost);
            CHECK.due("base of weight " + weight, s.baseOf(0), 10 * cost);
        }
    }
}
