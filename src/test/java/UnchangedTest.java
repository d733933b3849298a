import java.util.Random;

/**
 * A call that throws changes nothing: two schedulers get the same calls, one of them wrong calls in
 * between, and both answer the same at once and at the end of the run. Each pair gets its wrong
 * calls in one place of the run only and is compared once, since an object answers 512 calls.
 */
public final class UnchangedTest {
    private static final Check CHECK = new Check("UnchangedTest");
    private static final int CORES = 2;
    private static final int LAST_PLACE = 15;

    public static void main(String[] args) {
        for (int seed = 1; seed <= 40; seed++) {
            for (int place = 0; place <= LAST_PLACE; place++) {
                run(seed, place, place);
                run(seed, place, LAST_PLACE);
            }
        }
        CHECK.end();
    }

    /** Tasks stop or wake in the even places of a run, ticks are made in the odd ones. */
    private static void run(int seed, int wrongPlace, int lastPlace) {
        String where = "run " + seed + ", wrong calls in " + wrongPlace + ", ";
        CoreScheduler plain = new CoreScheduler();
        CoreScheduler troubled = new CoreScheduler();
        int tasks = start(plain, seed);
        start(troubled, seed);
        Random random = new Random(seed);
        for (int place = 0; place <= lastPlace; place++) {
            if (place % 2 == 0) {
                int exiting = random.nextInt(tasks);
                int sleeping = random.nextInt(tasks);
                stop(plain, exiting, sleeping);
                stop(troubled, exiting, sleeping);
            } else {
                int ticks = 1 + place / 2;
                CHECK.due(where + "tick in " + place, troubled.tick(ticks), plain.tick(ticks));
            }
            if (place == wrongPlace) {
                wrongCalls(troubled, where);
            }
        }
        where += "after " + lastPlace;
        CHECK.due(where, Snapshot.of(troubled, CORES), Snapshot.of(plain, CORES));
        CHECK.due(where + ", stealing", troubled.setStealing(false), plain.setStealing(false));
    }

    private static int start(CoreScheduler s, int seed) {
        Random random = new Random(-seed);
        int tasks = 4 + random.nextInt(13);
        for (int i = 0; i < tasks; i++) {
            s.createTask(random.nextInt(4), 1 + random.nextInt(64), random.nextInt(3));
        }
        s.setStealing(seed % 2 == 0);
        return tasks;
    }

    private static void stop(CoreScheduler s, int exiting, int sleeping) {
        if (exiting % 5 == 0 && s.stateOf(exiting) != CoreScheduler.EXITED) {
            s.exit(exiting);
        }
        if (s.stateOf(sleeping) == CoreScheduler.SLEEPING) {
            s.wake(sleeping);
        } else if (s.stateOf(sleeping) != CoreScheduler.EXITED) {
            s.sleep(sleeping);
        }
    }

    /** Odd numbers of resets and ticks, so that no second call undoes what the first has changed. */
    private static void wrongCalls(CoreScheduler s, String where) {
        CHECK.badArgument(where + "reset", () -> s.reset(0));
        CHECK.badArgument(where + "reset", () -> s.reset(5));
        CHECK.badArgument(where + "reset", () -> s.reset(-1));
        CHECK.badArgument(where + "tick", () -> s.tick(0));
        CHECK.badArgument(where + "tick", () -> s.tick(101));
        CHECK.badArgument(where + "tick", () -> s.tick(-1));
        CHECK.badArgument(where + "leaderOf", () -> s.leaderOf(CORES));
        CHECK.badArgument(where + "stateOf", () -> s.stateOf(s.taskCount()));
        CHECK.badArgument(where + "createTask", () -> s.createTask(4, 1, 1));
        CHECK.badArgument(where + "createTask", () -> s.createTask(0, 65, 1));
        CHECK.badArgument(where + "createTask", () -> s.createTask(0, 1, 10));
        if (s.taskCount() == 16) {
            CHECK.badState(where + "createTask", () -> s.createTask(0, 1, 1));
        }
        CHECK.badIndex(where + "queuedTask", () -> s.queuedTask(0, s.queueLength(0)));
        for (int i = 0; i < s.taskCount(); i++) {
            int task = i;
            CHECK.badArgument(where + "setWeight", () -> s.setWeight(task, 0));
            CHECK.badArgument(where + "setCookie", () -> s.setCookie(task, -1));
            CHECK.badArgument(where + "moveTask", () -> s.moveTask(task, 4));
            wrongForState(s, task, where);
        }
    }

    private static void wrongForState(CoreScheduler s, int task, String where) {
        int state = s.stateOf(task);
        if (state != CoreScheduler.SLEEPING) {
            CHECK.badState(where + "wake", () -> s.wake(task));
        }
        if (state == CoreScheduler.SLEEPING || state == CoreScheduler.EXITED) {
            CHECK.badState(where + "sleep", () -> s.sleep(task));
        }
        if (state == CoreScheduler.RUNNING || state == CoreScheduler.EXITED) {
            CHECK.badState(where + "moveTask", () -> s.moveTask(task, 1));
        }
        if (state == CoreScheduler.EXITED) {
            CHECK.badState(where + "exit", () -> s.exit(task));
            CHECK.badState(where + "setWeight", () -> s.setWeight(task, 1));
            CHECK.badState(where + "setCookie", () -> s.setCookie(task, 1));
        }
    }
}
