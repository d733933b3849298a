/** Promises 1 to 4: a new object, reset, setStealing, tick. */
public final class MachineTest {
    private static final Check CHECK = new Check("MachineTest");

    public static void main(String[] args) {
        newObject();
        reset();
        resetClearsAll();
        setStealing();
        tick();
        tickReturnsGainedRunTicks();
        CHECK.end();
    }

    private static String empty(int cores) {
        StringBuilder text = new StringBuilder("tasks 0 stolen 0\n");
        for (int core = 0; core < cores; core++) {
            text.append("core ").append(core).append(" cookie -1 leader -1\n");
            for (int cpu = 2 * core; cpu <= 2 * core + 1; cpu++) {
                text.append("cpu ").append(cpu).append(" runs -1 base 0 idle 0 forced 0 queue\n");
            }
        }
        text.append("cores ").append(cores).append('\n');
        return text.toString();
    }

    private static void newObject() {
        CHECK.due("a new object", Snapshot.of(new CoreScheduler()), empty(2));
        CHECK.due("stealing at first", new CoreScheduler().setStealing(false), false);
        CHECK.due("cores at first", new CoreScheduler().reset(1), 2);
    }

    private static void reset() {
        CoreScheduler s = new CoreScheduler();
        int previous = 2;
        for (int cores : new int[] {1, 4, 3, 3, 2}) {
            CHECK.due("reset(" + cores + ")", s.reset(cores), previous);
            CHECK.due("after reset(" + cores + ")", Snapshot.of(s), empty(cores));
            previous = cores;
        }
        int[] wrong = {0, 5, -1, Integer.MIN_VALUE, Integer.MAX_VALUE};
        for (int cores : wrong) {
            CHECK.badArgument("reset(" + cores + ")", () -> s.reset(cores));
        }
        CHECK.due("cores after wrong resets", s.reset(2), 2);
    }

    private static void resetClearsAll() {
        CoreScheduler s = new CoreScheduler();
        busy(s);
        CHECK.due("stolenTasks() is not 0 before", s.stolenTasks() > 0, true);
        CHECK.due("some task has waited before", s.waitTicks(2) > 0, true);
        CHECK.due("reset(2)", s.reset(2), 2);
        CHECK.due("after the reset of a busy machine", Snapshot.of(s), empty(2));
        CHECK.due("stealing after a reset", s.setStealing(false), false);
        for (int task = 0; task < 4; task++) {
            CHECK.due("createTask after a reset", s.createTask(0, 3, 4), task);
            CHECK.due("time of new task " + task, s.virtualTime(task), 0);
            CHECK.due("run ticks of new task " + task, s.runTicks(task), 0);
            CHECK.due("wait ticks of new task " + task, s.waitTicks(task), 0);
            CHECK.due("state of new task " + task, s.stateOf(task), CoreScheduler.READY);
        }
        busy(s);
        s.reset(1);
        s.reset(4);
        CHECK.due("after two resets", Snapshot.of(s), empty(4));
    }

    /** Leaves every kind of number behind: bases, ticks of all kinds, cookies, stolen tasks. */
    private static void busy(CoreScheduler s) {
        s.setStealing(true);
        s.createTask(0, 1, 5);
        s.createTask(2, 2, 5);
        s.createTask(1, 3, 6);
        s.createTask(3, 4, 7);
        s.tick(10);
    }

    private static void setStealing() {
        CoreScheduler s = new CoreScheduler();
        CHECK.due("setStealing(true)", s.setStealing(true), false);
        CHECK.due("setStealing(true) again", s.setStealing(true), true);
        CHECK.due("setStealing(false)", s.setStealing(false), true);
        CHECK.due("setStealing(false) again", s.setStealing(false), false);
        s.createTask(0, 1, 5);
        s.createTask(2, 1, 5);
        s.tick(1);
        CHECK.due("nothing is stolen while disabled", s.stolenTasks(), 0);
        s.createTask(3, 1, 5);
        s.createTask(3, 1, 5);
        s.setStealing(true);
        s.tick(1);
        CHECK.due("stolen once enabled", s.stolenTasks(), 1);
    }

    private static void tick() {
        CoreScheduler s = new CoreScheduler();
        int[] wrong = {0, 101, -1, Integer.MIN_VALUE, Integer.MAX_VALUE};
        for (int ticks : wrong) {
            CHECK.badArgument("tick(" + ticks + ")", () -> s.tick(ticks));
        }
        CHECK.due("nothing has been simulated", Snapshot.of(s), empty(2));
        CHECK.due("tick(1) without tasks", s.tick(1), 0);
        CHECK.due("tick(100) without tasks", s.tick(100), 0);
        CHECK.due("idleTicks(3)", s.idleTicks(3), 101);
        s.createTask(1, 64, 9);
        CHECK.due("tick(100)", s.tick(100), 100);
        CHECK.due("runTicks(0)", s.runTicks(0), 100);
        CHECK.due("virtualTime(0)", s.virtualTime(0), 7800);
    }

    private static void tickReturnsGainedRunTicks() {
        CoreScheduler s = new CoreScheduler();
        s.reset(4);
        for (int cpu = 0; cpu < 8; cpu++) {
            s.createTask(cpu, 1 + cpu, 2);
        }
        CHECK.due("tick(100) on 8 busy CPUs", s.tick(100), 800);
        s.sleep(7);
        CHECK.due("tick(10) on 7 busy CPUs", s.tick(10), 70);
        s.exit(0);
        CHECK.due("tick(10) on 6 busy CPUs", s.tick(10), 60);
        CoreScheduler one = new CoreScheduler();
        one.createTask(0, 1, 1);
        one.createTask(0, 1, 1);
        one.createTask(0, 1, 1);
        CHECK.due("tick(7), three tasks on one CPU", one.tick(7), 7);
        CHECK.due("runTicks(0)", one.runTicks(0), 3);
        CHECK.due("runTicks(1)", one.runTicks(1), 2);
        CHECK.due("runTicks(2)", one.runTicks(2), 2);
        CHECK.due("waitTicks(0)", one.waitTicks(0), 4);
        CHECK.due("waitTicks(2)", one.waitTicks(2), 5);
    }
}
