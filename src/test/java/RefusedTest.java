/**
 * Every 'Throws' sentence of the promises, a method each: the last values inside and the first ones
 * outside of each range, in machines of one to four cores with no task to sixteen. A refused call
 * changes nothing, neither at once nor for what comes later.
 */
public final class RefusedTest {
    private static final Check CHECK = new Check("RefusedTest");
    private static final String ARGUMENT = "IllegalArgumentException";
    private static final String STATE = "IllegalStateException";
    private static final String INDEX = "IndexOutOfBoundsException";
    private static final String NOTHING = "nothing";
    private static final int LAST_TASK = 15;

    private interface Use {
        void on(CoreScheduler s);
    }

    private interface IntUse {
        void on(CoreScheduler s, int value);
    }

    public static void main(String[] args) {
        scenesAreAsNamed();
        resetCoresOutOfRange();
        tickTicksOutOfRange();
        createTaskCpuOutOfRange();
        createTaskWeightOutOfRange();
        createTaskCookieOutOfRange();
        createTaskAlreadySixteen();
        createTaskNamesTheArgumentFirst();
        sleepNoSuchTask();
        sleepNotRunnable();
        wakeNoSuchTask();
        wakeNotSleeping();
        exitNoSuchTask();
        exitExitedAlready();
        setWeightTaskOutOfRange();
        setWeightWeightOutOfRange();
        setWeightExited();
        setCookieTaskOutOfRange();
        setCookieCookieOutOfRange();
        setCookieExited();
        moveTaskTaskOutOfRange();
        moveTaskCpuOutOfRange();
        moveTaskRunning();
        moveTaskExited();
        stateOfNoSuchTask();
        cpuOfNoSuchTask();
        virtualTimeNoSuchTask();
        runTicksNoSuchTask();
        waitTicksNoSuchTask();
        shareNoSuchTask();
        runningTaskNoSuchCpu();
        coreCookieNoSuchCore();
        leaderOfNoSuchCore();
        queueLengthNoSuchCpu();
        queuedTaskNoSuchCpu();
        queuedTaskNoSuchPosition();
        baseOfNoSuchCpu();
        idleTicksNoSuchCpu();
        forcedIdleTicksNoSuchCpu();
        CHECK.end();
    }

    // ---- ways to ask

    private static void accepted(Scene scene, String call, Use use) {
        CoreScheduler s = scene.build();
        CHECK.due(scene + ": " + call, Check.thrownBy(() -> use.on(s)), NOTHING);
    }

    private static void refused(Scene scene, String call, Use use, String exception) {
        String what = scene + ": " + call;
        CoreScheduler now = scene.build();
        CoreScheduler plain = scene.build();
        CHECK.due(what, Check.thrownBy(() -> use.on(now)), exception);
        CHECK.due(what + " changes nothing", textOf(scene, now), textOf(scene, plain));
        CHECK.due(what + " leaves stealing", now.setStealing(false), plain.setStealing(false));
        CoreScheduler later = scene.build();
        CoreScheduler plainLater = scene.build();
        CHECK.due(what + " once more", Check.thrownBy(() -> use.on(later)), exception);
        CHECK.due(what + ", then tick(9)", later.tick(9), plainLater.tick(9));
        String due = textOf(scene, plainLater);
        CHECK.due(what + " changes nothing later", textOf(scene, later), due);
    }

    private static String textOf(Scene scene, CoreScheduler s) {
        return Snapshot.of(s, scene.cores);
    }

    private static void answers(Scene scene, String call, Use use, String exception) {
        if (exception.equals(NOTHING)) {
            accepted(scene, call, use);
        } else {
            refused(scene, call, use, exception);
        }
    }

    /** First and last are the ends of what is inside; last is first - 1 if nothing is. */
    private static void range(Scene scene, String call, int first, int last, IntUse use,
            String inside, String outside) {
        if (first <= last) {
            for (int value : new int[] {first, last}) {
                answers(scene, call + " with " + value, s -> use.on(s, value), inside);
            }
        }
        for (int value : new int[] {first - 1, last + 1, Integer.MIN_VALUE, Integer.MAX_VALUE}) {
            refused(scene, call + " with " + value, s -> use.on(s, value), outside);
        }
    }

    private static void eachScene(String call, int first, int last, IntUse use) {
        for (Scene scene : Scene.values()) {
            range(scene, call, first, last, use, NOTHING, ARGUMENT);
        }
    }

    /** A question about a task, which has an answer in every state. */
    private static void askTasks(String call, IntUse use) {
        for (Scene scene : Scene.values()) {
            range(scene, call, 0, scene.tasks - 1, use, NOTHING, ARGUMENT);
        }
    }

    /** A change of a task; inside is what is tried with the first and the last READY task. */
    private static void changeTasks(String call, IntUse use, IntUse inside) {
        for (Scene scene : Scene.values()) {
            int[] none = {-1, scene.tasks, Integer.MIN_VALUE, Integer.MAX_VALUE};
            for (int task : none) {
                refused(scene, call + " of " + task, s -> use.on(s, task), ARGUMENT);
            }
        }
        for (int task : new int[] {0, LAST_TASK}) {
            accepted(Scene.FULL, call + " of " + task, s -> inside.on(s, task));
        }
    }

    private static void askCpus(String call, IntUse use) {
        for (Scene scene : Scene.values()) {
            range(scene, call, 0, scene.cpus() - 1, use, NOTHING, ARGUMENT);
        }
    }

    private static void askCores(String call, IntUse use) {
        for (Scene scene : Scene.values()) {
            range(scene, call, 0, scene.cores - 1, use, NOTHING, ARGUMENT);
        }
    }

    /** What the other tests rely on. */
    private static void scenesAreAsNamed() {
        for (Scene scene : Scene.values()) {
            CHECK.due(scene + " cores", Snapshot.coresOf(scene.build()), scene.cores);
            CHECK.due(scene + " tasks", scene.build().taskCount(), scene.tasks);
        }
        CoreScheduler s = Scene.MIXED.build();
        CHECK.due("RUNNING_TASK", s.stateOf(Scene.RUNNING_TASK), CoreScheduler.RUNNING);
        CHECK.due("READY_TASK", s.stateOf(Scene.READY_TASK), CoreScheduler.READY);
        CHECK.due("SLEEPING_TASK", s.stateOf(Scene.SLEEPING_TASK), CoreScheduler.SLEEPING);
        CHECK.due("EXITED_TASK", s.stateOf(Scene.EXITED_TASK), CoreScheduler.EXITED);
        CHECK.due("STOLEN_TASK", s.cpuOf(Scene.STOLEN_TASK), Scene.THIEF_CPU);
        CHECK.due("stolenTasks()", s.stolenTasks(), 1);
        CHECK.due("FORCED_IDLE_CPU", s.forcedIdleTicks(Scene.FORCED_IDLE_CPU), 2);
        CHECK.due("IDLE_CPU", s.idleTicks(Scene.IDLE_CPU), 1);
    }

    // ---- promises 2 and 4

    private static void resetCoresOutOfRange() {
        eachScene("reset", 1, 4, CoreScheduler::reset);
    }

    private static void tickTicksOutOfRange() {
        eachScene("tick", 1, 100, CoreScheduler::tick);
    }

    // ---- promise 5

    private static final Scene[] NOT_FULL = {Scene.NEW, Scene.ONE_CORE, Scene.MIXED};

    private static void createTaskCpuOutOfRange() {
        for (Scene scene : NOT_FULL) {
            range(scene, "createTask(cpu, 1, 0)", 0, scene.cpus() - 1,
                (s, cpu) -> s.createTask(cpu, 1, 0), NOTHING, ARGUMENT);
        }
        CoreScheduler four = new CoreScheduler();
        four.reset(4);
        CHECK.due("the last CPU of four cores", four.createTask(7, 1, 0), 0);
        CHECK.badArgument("the CPU behind it", () -> four.createTask(8, 1, 0));
    }

    private static void createTaskWeightOutOfRange() {
        for (Scene scene : NOT_FULL) {
            range(scene, "createTask(0, weight, 0)", 1, 64,
                (s, weight) -> s.createTask(0, weight, 0), NOTHING, ARGUMENT);
        }
    }

    private static void createTaskCookieOutOfRange() {
        for (Scene scene : NOT_FULL) {
            range(scene, "createTask(0, 1, cookie)", 0, 9,
                (s, cookie) -> s.createTask(0, 1, cookie), NOTHING, ARGUMENT);
        }
    }

    private static void createTaskAlreadySixteen() {
        refused(Scene.FULL, "a 17th task", s -> s.createTask(0, 1, 0), STATE);
        CoreScheduler s = new CoreScheduler();
        for (int task = 0; task < 16; task++) {
            CHECK.due("task " + task + " with all before it exited", s.createTask(0, 1, 0), task);
            s.exit(task);
        }
        CHECK.badState("exited ones are included", () -> s.createTask(0, 1, 0));
        CHECK.badState("and again", () -> s.createTask(3, 64, 9));
        s.reset(2);
        CHECK.due("a reset makes room", s.createTask(0, 1, 0), 0);
    }

    /** Sixteen tasks and a wrong argument at once: both exceptions apply. */
    private static void createTaskNamesTheArgumentFirst() {
        range(Scene.FULL, "createTask(cpu, 1, 0)", 0, 7,
            (s, cpu) -> s.createTask(cpu, 1, 0), STATE, ARGUMENT);
        range(Scene.FULL, "createTask(0, weight, 0)", 1, 64,
            (s, weight) -> s.createTask(0, weight, 0), STATE, ARGUMENT);
        range(Scene.FULL, "createTask(0, 1, cookie)", 0, 9,
            (s, cookie) -> s.createTask(0, 1, cookie), STATE, ARGUMENT);
    }

    // ---- promises 6 to 8

    private static void sleepNoSuchTask() {
        changeTasks("sleep", CoreScheduler::sleep, CoreScheduler::sleep);
    }

    private static void sleepNotRunnable() {
        accepted(Scene.MIXED, "sleep, READY", s -> s.sleep(Scene.READY_TASK));
        accepted(Scene.MIXED, "sleep, RUNNING", s -> s.sleep(Scene.RUNNING_TASK));
        refused(Scene.MIXED, "sleep, SLEEPING", s -> s.sleep(Scene.SLEEPING_TASK), STATE);
        refused(Scene.MIXED, "sleep, EXITED", s -> s.sleep(Scene.EXITED_TASK), STATE);
    }

    private static void wakeNoSuchTask() {
        changeTasks("wake", CoreScheduler::wake, (s, task) -> {
            s.sleep(task);
            s.wake(task);
        });
    }

    private static void wakeNotSleeping() {
        accepted(Scene.MIXED, "wake, SLEEPING", s -> s.wake(Scene.SLEEPING_TASK));
        refused(Scene.MIXED, "wake, READY", s -> s.wake(Scene.READY_TASK), STATE);
        refused(Scene.MIXED, "wake, RUNNING", s -> s.wake(Scene.RUNNING_TASK), STATE);
        refused(Scene.MIXED, "wake, EXITED", s -> s.wake(Scene.EXITED_TASK), STATE);
    }

    private static void exitNoSuchTask() {
        changeTasks("exit", CoreScheduler::exit, CoreScheduler::exit);
    }

    private static void exitExitedAlready() {
        accepted(Scene.MIXED, "exit, READY", s -> s.exit(Scene.READY_TASK));
        accepted(Scene.MIXED, "exit, RUNNING", s -> s.exit(Scene.RUNNING_TASK));
        accepted(Scene.MIXED, "exit, SLEEPING", s -> s.exit(Scene.SLEEPING_TASK));
        refused(Scene.MIXED, "exit, EXITED", s -> s.exit(Scene.EXITED_TASK), STATE);
    }

    // ---- promises 9 and 10

    private static void setWeightTaskOutOfRange() {
        IntUse use = (s, task) -> s.setWeight(task, 1);
        changeTasks("setWeight(task, 1)", use, use);
    }

    private static void setWeightWeightOutOfRange() {
        int[] tasks = {Scene.READY_TASK, Scene.RUNNING_TASK, Scene.SLEEPING_TASK};
        for (int task : tasks) {
            range(Scene.MIXED, "setWeight of " + task, 1, 64,
                (s, weight) -> s.setWeight(task, weight), NOTHING, ARGUMENT);
        }
    }

    /** With a wrong weight both exceptions apply. */
    private static void setWeightExited() {
        range(Scene.MIXED, "setWeight, EXITED", 1, 64,
            (s, weight) -> s.setWeight(Scene.EXITED_TASK, weight), STATE, ARGUMENT);
    }

    private static void setCookieTaskOutOfRange() {
        IntUse use = (s, task) -> s.setCookie(task, 1);
        changeTasks("setCookie(task, 1)", use, use);
    }

    private static void setCookieCookieOutOfRange() {
        int[] tasks = {Scene.READY_TASK, Scene.RUNNING_TASK, Scene.SLEEPING_TASK};
        for (int task : tasks) {
            range(Scene.MIXED, "setCookie of " + task, 0, 9,
                (s, cookie) -> s.setCookie(task, cookie), NOTHING, ARGUMENT);
        }
    }

    /** With a wrong cookie both exceptions apply. */
    private static void setCookieExited() {
        range(Scene.MIXED, "setCookie, EXITED", 0, 9,
            (s, cookie) -> s.setCookie(Scene.EXITED_TASK, cookie), STATE, ARGUMENT);
    }

    // ---- promise 11

    private static void moveTaskTaskOutOfRange() {
        IntUse use = (s, task) -> s.moveTask(task, 1);
        changeTasks("moveTask(task, 1)", use, use);
    }

    private static void moveTaskCpuOutOfRange() {
        range(Scene.ONE_CORE, "moveTask, SLEEPING", 0, 1,
            (s, cpu) -> s.moveTask(0, cpu), NOTHING, ARGUMENT);
        range(Scene.MIXED, "moveTask, READY", 0, 5,
            (s, cpu) -> s.moveTask(Scene.READY_TASK, cpu), NOTHING, ARGUMENT);
        range(Scene.MIXED, "moveTask, SLEEPING", 0, 5,
            (s, cpu) -> s.moveTask(Scene.SLEEPING_TASK, cpu), NOTHING, ARGUMENT);
        range(Scene.FULL, "moveTask, READY", 0, 7,
            (s, cpu) -> s.moveTask(LAST_TASK, cpu), NOTHING, ARGUMENT);
        CoreScheduler two = new CoreScheduler();
        two.createTask(0, 1, 0);
        CHECK.due("the last CPU of two cores", two.moveTask(0, 3), 0);
        CHECK.badArgument("the CPU behind it", () -> two.moveTask(0, 4));
    }

    /** With a wrong CPU both exceptions apply; CPU 0 is its own one. */
    private static void moveTaskRunning() {
        range(Scene.MIXED, "moveTask, RUNNING", 0, 5,
            (s, cpu) -> s.moveTask(Scene.RUNNING_TASK, cpu), STATE, ARGUMENT);
    }

    /** With a wrong CPU both exceptions apply; CPU 5 is its own one. */
    private static void moveTaskExited() {
        range(Scene.MIXED, "moveTask, EXITED", 0, 5,
            (s, cpu) -> s.moveTask(Scene.EXITED_TASK, cpu), STATE, ARGUMENT);
    }

    // ---- promises 13 to 18

    private static void stateOfNoSuchTask() {
        askTasks("stateOf", CoreScheduler::stateOf);
    }

    private static void cpuOfNoSuchTask() {
        askTasks("cpuOf", CoreScheduler::cpuOf);
    }

    private static void virtualTimeNoSuchTask() {
        askTasks("virtualTime", CoreScheduler::virtualTime);
    }

    private static void runTicksNoSuchTask() {
        askTasks("runTicks", CoreScheduler::runTicks);
    }

    private static void waitTicksNoSuchTask() {
        askTasks("waitTicks", CoreScheduler::waitTicks);
    }

    private static void shareNoSuchTask() {
        askTasks("share", CoreScheduler::share);
    }

    // ---- promises 19 to 26

    private static void runningTaskNoSuchCpu() {
        askCpus("runningTask", CoreScheduler::runningTask);
    }

    private static void coreCookieNoSuchCore() {
        askCores("coreCookie", CoreScheduler::coreCookie);
    }

    private static void leaderOfNoSuchCore() {
        askCores("leaderOf", CoreScheduler::leaderOf);
    }

    private static void queueLengthNoSuchCpu() {
        askCpus("queueLength", CoreScheduler::queueLength);
    }

    /** No queue has the position -1, so for a wrong CPU both exceptions apply. */
    private static void queuedTaskNoSuchCpu() {
        for (Scene scene : Scene.values()) {
            range(scene, "queuedTask(cpu, -1)", 0, scene.cpus() - 1,
                (s, cpu) -> s.queuedTask(cpu, -1), INDEX, ARGUMENT);
        }
        for (int cpu : new int[] {-1, 8}) {
            refused(Scene.FULL, "queuedTask(cpu, 0)", s -> s.queuedTask(cpu, 0), ARGUMENT);
        }
    }

    private static void queuedTaskNoSuchPosition() {
        for (Scene scene : Scene.values()) {
            for (int i = 0; i < scene.cpus(); i++) {
                int cpu = i;
                int length = scene.build().queueLength(cpu);
                range(scene, "queuedTask(" + cpu + ", index)", 0, length - 1,
                    (s, index) -> s.queuedTask(cpu, index), NOTHING, INDEX);
            }
        }
    }

    private static void baseOfNoSuchCpu() {
        askCpus("baseOf", CoreScheduler::baseOf);
    }

    private static void idleTicksNoSuchCpu() {
        askCpus("idleTicks", CoreScheduler::idleTicks);
    }

    private static void forcedIdleTicksNoSuchCpu() {
        askCpus("forcedIdleTicks", CoreScheduler::forcedIdleTicks);
    }
}
