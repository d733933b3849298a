/** The document's examples 1 to 5. */
public final class ExamplesTest {
    private static final Check CHECK = new Check("ExamplesTest");

    public static void main(String[] args) {
        forcedIdle();
        takingTurns();
        stealing();
        exceptions();
        shareAndSleep();
        CHECK.end();
    }

    private static void forcedIdle() {
        CoreScheduler s = new CoreScheduler();
        CHECK.due("1: createTask(0, 1, 1)", s.createTask(0, 1, 1), 0);
        CHECK.due("1: createTask(1, 2, 2)", s.createTask(1, 2, 2), 1);
        CHECK.due("1: tick(1)", s.tick(1), 1);
        CHECK.due("1: runningTask(0)", s.runningTask(0), 0);
        CHECK.due("1: runningTask(1)", s.runningTask(1), -1);
        CHECK.due("1: forcedIdleTicks(1)", s.forcedIdleTicks(1), 1);
        CHECK.due("1: coreCookie(0)", s.coreCookie(0), 1);
    }

    private static void takingTurns() {
        CoreScheduler s = new CoreScheduler();
        CHECK.due("2: createTask(0, 10, 3)", s.createTask(0, 10, 3), 0);
        CHECK.due("2: createTask(0, 20, 3)", s.createTask(0, 20, 3), 1);
        CHECK.due("2: tick(2)", s.tick(2), 2);
        CHECK.due("2: virtualTime(0)", s.virtualTime(0), 504);
        CHECK.due("2: virtualTime(1)", s.virtualTime(1), 252);
        CHECK.due("2: runTicks(1)", s.runTicks(1), 1);
        CHECK.due("2: queuedTask(0, 0)", s.queuedTask(0, 0), 1);
    }

    private static void stealing() {
        CoreScheduler s = new CoreScheduler();
        CHECK.due("3: setStealing(true)", s.setStealing(true), false);
        CHECK.due("3: createTask(0, 1, 5)", s.createTask(0, 1, 5), 0);
        CHECK.due("3: createTask(0, 1, 5) again", s.createTask(0, 1, 5), 1);
        CHECK.due("3: createTask(2, 1, 5)", s.createTask(2, 1, 5), 2);
        CHECK.due("3: tick(1)", s.tick(1), 2);
        CHECK.due("3: stolenTasks()", s.stolenTasks(), 1);
        CHECK.due("3: cpuOf(1)", s.cpuOf(1), 0);
    }

    private static void exceptions() {
        CoreScheduler s = new CoreScheduler();
        CHECK.badArgument("4: createTask(0, 0, 0)", () -> s.createTask(0, 0, 0));
        CHECK.due("4: createTask(0, 1, 0)", s.createTask(0, 1, 0), 0);
        CHECK.badState("4: wake(0)", () -> s.wake(0));
        CHECK.badIndex("4: queuedTask(0, 1)", () -> s.queuedTask(0, 1));
        CHECK.due("4: sleep(0)", s.sleep(0), 0);
        CHECK.badState("4: sleep(0) again", () -> s.sleep(0));
    }

    private static void shareAndSleep() {
        CoreScheduler s = new CoreScheduler();
        CHECK.due("5: createTask(2, 4, 0)", s.createTask(2, 4, 0), 0);
        CHECK.due("5: share(0)", s.share(0), 0.0);
        CHECK.due("5: tick(4)", s.tick(4), 4);
        CHECK.due("5: share(0) later", s.share(0), 1.0);
        CHECK.due("5: sleep(0)", s.sleep(0), 1);
        CHECK.due("5: wake(0)", s.wake(0), 5040);
    }
}
