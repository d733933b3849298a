import java.util.Random;

/**
 * A call that throws changes nothing: two schedulers get the same calls, one of them wrong calls in
 * between, and both answer the same ever after.
 */
public final class UnchangedTest {
    private static final Check CHECK = new Check("UnchangedTest");

    public static void main(String[] args) {
        for (int seed = 1; seed <= 40; seed++) {
            run(seed);
        }
        CHECK.end();
    }

    private static void run(int seed) {
        CoreScheduler plain = new CoreScheduler();
        CoreScheduler troubled = new CoreScheduler();
        Random random = new Random(seed);
        int tasks = 4 + random.nextInt(13);
        for (int i = 0; i < tasks; i++) {
            int cpu = random.nextInt(4);
            int weight = 1 + random.nextInt(64);
            int cookie = random.nextInt(3);
            plain.createTask(cpu, weight, cookie);
            troubled.createTask(cpu, weight, cookie);
        }
        plain.setStealing(seed % 2 == 0);
        troubled.setStealing(seed % 2 == 0);
        for (int round = 0; round < 8; round++) {
            int exiting = random.nextInt(tasks);
            int sleeping = random.nextInt(tasks);
            stop(plain, exiting, sleeping);
            stop(troubled, exiting, sleeping);
            wrongCalls(troubled, "run " + seed);
            CHECK.due("run " + seed, Snapshot.of(troubled), Snapshot.of(plain));
            CHECK.due("tick", troubled.tick(1 + round), plain.tick(1 + round));
            wrongCalls(troubled, "run " + seed);
            CHECK.due("run " + seed + " later", Snapshot.of(troubled), Snapshot.of(plain));
        }
        CHECK.due("stealing", troubled.setStealing(false), plain.setStealing(false));
    }

    private static void stop(CoreScheduler s, int exiting, int sleeping) {
        if (exiting % 5 == 0 && s.stateOf(exiting) != CoreScheduler.EXITED) {
            s.exit(exiting);
        }
        if (s.stateOf(sleeping) == CoreScheduler.SLEEPING) {
            s.wake(sleeping);
        } else if (s.stateOf(sleeping) != CoreScheduler.EXITED) {
            s.sleep(sleeping);
        }
    }

    private static void wrongCalls(CoreScheduler s, String where) {
        CHECK.badArgument(where + " reset", () -> s.reset(0));
        CHECK.badArgument(where + " reset", () -> s.reset(5));
        CHECK.badArgument(where + " tick", () -> s.tick(0));
        CHECK.badArgument(where + " tick", () -> s.tick(101));
        CHECK.badArgument(where + " createTask", () -> s.createTask(4, 1, 1));
        CHECK.badArgument(where + " createTask", () -> s.createTask(0, 65, 1));
        CHECK.badArgument(where + " createTask", () -> s.createTask(0, 1, 10));
        if (s.taskCount() == 16) {
            CHECK.badState(where + " createTask", () -> s.createTask(0, 1, 1));
        }
        CHECK.badIndex(where + " queuedTask", () -> s.queuedTask(0, s.queueLength(0)));
        for (int i = 0; i < s.taskCount(); i++) {
            int task = i;
            CHECK.badArgument(where + " setWeight", () -> s.setWeight(task, 0));
            CHECK.badArgument(where + " setCookie", () -> s.setCookie(task, -1));
            CHECK.badArgument(where + " moveTask", () -> s.moveTask(task, 4));
            wrongForState(s, task, where);
        }
    }

    private static void wrongForState(CoreScheduler s, int task, String where) {
        int state = s.stateOf(task);
        if (state != CoreScheduler.SLEEPING) {
            CHECK.badState(where + " wake", () -> s.wake(task));
        }
        if (state == CoreScheduler.SLEEPING || state == CoreScheduler.EXITED) {
            CHECK.badState(where + " sleep", () -> s.sleep(task));
        }
        if (state == CoreScheduler.RUNNING || state == CoreScheduler.EXITED) {
            CHECK.badState(where + " moveTask", () -> s.moveTask(task, 1));
        }
        if (state == CoreScheduler.EXITED) {
            CHECK.badState(where + " exit", () -> s.exit(task));
            CHECK.badState(where + " setWeight", () -> s.setWeight(task, 1));
            CHECK.badState(where + " setCookie", () -> s.setCookie(task, 1));
        }
    }
}
