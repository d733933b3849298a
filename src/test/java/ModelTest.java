import java.util.ArrayList;
import java.util.Deque;
import java.util.List;
import java.util.Random;

/**
 * Random runs of calls, wrong ones among them, whose answers are compared with the model's. A far
 * run begins with a base of about a quarter of what a long holds or more; most get times beyond
 * the end of long.
 *
 * An object answers 512 calls and no more, so a run can't ask everything after each step: it asks
 * one thing at random, and everything at its end. Runs are many and of all lengths instead.
 */
public final class ModelTest {
    private static final Check CHECK = new Check("ModelTest");
    private static final int RUNS = 2500;
    private static final int CALLS = 512;
    /** A leap and a question. */
    private static final int MOST_CALLS_OF_A_STEP = 5;
    /** Of four cores and sixteen tasks. */
    private static final int MOST_QUESTIONS = 181;
    private static final List<String> STATES = List.of("READY", "RUNNING", "SLEEPING", "EXITED");

    private final Random random;
    private final boolean far;
    private final CoreScheduler scheduler = new CoreScheduler();
    private int calls = 0;
    private Model model = new Model(2);
    private String where;

    private ModelTest(int seed, boolean far) {
        random = new Random(seed);
        this.far = far;
    }

    public static void main(String[] args) {
        for (int seed = 1; seed <= RUNS; seed++) {
            new ModelTest(seed, false).run("run " + seed);
            new ModelTest(seed, true).run("far run " + seed);
        }
        CHECK.end();
    }

    private void run(String name) {
        where = name + ", climbing: ";
        if (far) {
            climb();
        }
        int steps = random.nextInt(CALLS - MOST_QUESTIONS);
        for (int step = 0; step < steps && roomForAStep(); step++) {
            where = name + ", step " + step + ": ";
            step();
            askOne();
        }
        where = name + ", at its end: ";
        askAll();
        CHECK.due(where + "no more than 512 calls", calls <= CALLS, true);
    }

    /** All calls go through here, so that all are counted. */
    private CoreScheduler real() {
        calls++;
        return scheduler;
    }

    private boolean roomForAStep() {
        return calls + MOST_CALLS_OF_A_STEP + MOST_QUESTIONS <= CALLS;
    }

    /** Lifts the base of CPU 0 to where sums and differences of times leave the range of long. */
    private void climb() {
        resetTo(1 + random.nextInt(4));
        long end = Long.MAX_VALUE / Climb.TURN;
        Deque<Integer> ticks = Climb.ticksTo((end >> random.nextInt(3)) - random.nextInt(20));
        CHECK.due(where + "createTask", real().createTask(0, 1, 0), model.create(0, 1, 0));
        tickBoth(ticks.removeFirst());
        for (int next : ticks) {
            leap(0, 1, 0);
            tickBoth(next);
        }
    }

    /** As Climb's leap, for both; a task that sleeps already leaps too. */
    private void leap(int task, int low, int high) {
        if (model.tasks.get(task).runnable()) {
            real().sleep(task);
            model.stop(task, "SLEEPING");
        }
        real().moveTask(task, low);
        model.move(task, low);
        CHECK.due(where + "leaping", real().wake(task), model.wake(task));
        real().moveTask(task, high);
        model.move(task, high);
    }

    /** Mostly to CPU 0, whose base is high, and often task 0, whose time is. */
    private void leapSomewhere() {
        int task = random.nextInt(3) == 0 ? 0 : someTask();
        int low = random.nextInt(model.cpus.size());
        int high = random.nextInt(3) == 0 ? random.nextInt(model.cpus.size()) : 0;
        if (!noTask(task) && !state(task).equals("EXITED")) {
            leap(task, low, high);
        }
    }

    /** Mostly a number within 0 to bound - 1, now and then one beside them. */
    private int near(int bound) {
        return random.nextInt(12) == 0 ? random.nextInt(bound + 4) - 2 : random.nextInt(bound);
    }

    private void step() {
        switch (random.nextInt(14)) {
            case 0, 1 -> create();
            case 2 -> sleep();
            case 3, 4 -> wake();
            case 5 -> exitOrReset();
            case 6 -> setWeight();
            case 7 -> setCookie();
            case 8, 9 -> move();
            case 10 -> steal();
            case 11 -> tickOrLeap();
            default -> tick();
        }
    }

    private boolean noTask(int task) {
        return task < 0 || task >= model.tasks.size();
    }

    private boolean noCpu(int cpu) {
        return cpu < 0 || cpu >= model.cpus.size();
    }

    private String state(int task) {
        return model.tasks.get(task).state;
    }

    private int someTask() {
        return near(Math.max(1, model.tasks.size()));
    }

    private void create() {
        int cpu = near(model.cpus.size());
        int weight = 1 + near(64);
        int cookie = random.nextInt(4) == 0 ? near(10) : random.nextInt(3);
        String call = where + "createTask(" + cpu + ", " + weight + ", " + cookie + ")";
        if (noCpu(cpu) || weight < 1 || weight > 64 || cookie < 0 || cookie > 9) {
            CHECK.badArgument(call, () -> real().createTask(cpu, weight, cookie));
        } else if (model.tasks.size() == 16) {
            CHECK.badState(call, () -> real().createTask(cpu, weight, cookie));
        } else {
            int due = model.create(cpu, weight, cookie);
            CHECK.due(call, real().createTask(cpu, weight, cookie), due);
        }
    }

    private void sleep() {
        int task = someTask();
        String call = where + "sleep(" + task + ")";
        if (noTask(task)) {
            CHECK.badArgument(call, () -> real().sleep(task));
        } else if (!model.tasks.get(task).runnable()) {
            CHECK.badState(call, () -> real().sleep(task));
        } else {
            CHECK.due(call, real().sleep(task), STATES.indexOf(state(task)));
            model.stop(task, "SLEEPING");
        }
    }

    private void wake() {
        int task = someTask();
        String call = where + "wake(" + task + ")";
        if (noTask(task)) {
            CHECK.badArgument(call, () -> real().wake(task));
        } else if (!state(task).equals("SLEEPING")) {
            CHECK.badState(call, () -> real().wake(task));
        } else {
            CHECK.due(call, real().wake(task), model.wake(task));
        }
    }

    private void exitOrReset() {
        int task = someTask();
        String call = where + "exit(" + task + ")";
        if (!far && random.nextInt(8) == 0) {
            reset();
        } else if (noTask(task)) {
            CHECK.badArgument(call, () -> real().exit(task));
        } else if (state(task).equals("EXITED")) {
            CHECK.badState(call, () -> real().exit(task));
        } else if (random.nextInt(3) == 0) {
            CHECK.due(call, real().exit(task), STATES.indexOf(state(task)));
            model.stop(task, "EXITED");
        }
    }

    private void reset() {
        int cores = 1 + near(4);
        String call = where + "reset(" + cores + ")";
        if (cores < 1 || cores > 4) {
            CHECK.badArgument(call, () -> real().reset(cores));
        } else {
            resetTo(cores);
        }
    }

    private void resetTo(int cores) {
        CHECK.due(where + "reset(" + cores + ")", real().reset(cores), model.cores());
        model = new Model(cores);
    }

    private void setWeight() {
        int task = someTask();
        int weight = 1 + near(64);
        String call = where + "setWeight(" + task + ", " + weight + ")";
        if (noTask(task) || weight < 1 || weight > 64) {
            CHECK.badArgument(call, () -> real().setWeight(task, weight));
        } else if (state(task).equals("EXITED")) {
            CHECK.badState(call, () -> real().setWeight(task, weight));
        } else {
            CHECK.due(call, real().setWeight(task, weight), model.tasks.get(task).weight);
            model.tasks.get(task).weight = weight;
        }
    }

    private void setCookie() {
        int task = someTask();
        int cookie = random.nextInt(4) == 0 ? near(10) : random.nextInt(3);
        String call = where + "setCookie(" + task + ", " + cookie + ")";
        if (noTask(task) || cookie < 0 || cookie > 9) {
            CHECK.badArgument(call, () -> real().setCookie(task, cookie));
        } else if (state(task).equals("EXITED")) {
            CHECK.badState(call, () -> real().setCookie(task, cookie));
        } else {
            CHECK.due(call, real().setCookie(task, cookie), model.tasks.get(task).cookie);
            model.tasks.get(task).cookie = cookie;
        }
    }

    private void move() {
        int task = someTask();
        int cpu = near(model.cpus.size());
        String call = where + "moveTask(" + task + ", " + cpu + ")";
        if (noTask(task) || noCpu(cpu)) {
            CHECK.badArgument(call, () -> real().moveTask(task, cpu));
        } else if (state(task).equals("RUNNING") || state(task).equals("EXITED")) {
            CHECK.badState(call, () -> real().moveTask(task, cpu));
        } else {
            CHECK.due(call, real().moveTask(task, cpu), model.tasks.get(task).cpu);
            model.move(task, cpu);
        }
    }

    private void steal() {
        boolean enabled = random.nextInt(3) != 0;
        CHECK.due(where + "setStealing", real().setStealing(enabled), model.stealing);
        model.stealing = enabled;
    }

    private void tick() {
        int ticks = random.nextInt(4) == 0 ? 1 + near(100) : 1 + random.nextInt(3);
        String call = where + "tick(" + ticks + ")";
        if (ticks < 1 || ticks > 100) {
            CHECK.badArgument(call, () -> real().tick(ticks));
        } else {
            tickBoth(ticks);
        }
    }

    private void tickBoth(int ticks) {
        int gained = 0;
        for (int i = 0; i < ticks; i++) {
            gained += model.tick();
        }
        CHECK.due(where + "tick(" + ticks + ")", real().tick(ticks), gained);
    }

    private void tickOrLeap() {
        if (far) {
            leapSomewhere();
        } else {
            tick();
        }
    }

    // ---- questions, each of them one call

    private void askOne() {
        List<Runnable> all = questions();
        all.get(random.nextInt(all.size())).run();
    }

    private void askAll() {
        for (Runnable question : questions()) {
            question.run();
        }
    }

    private List<Runnable> questions() {
        List<Runnable> all = new ArrayList<>();
        all.add(() -> CHECK.due(where + "taskCount", real().taskCount(), model.tasks.size()));
        all.add(() -> CHECK.due(where + "stolenTasks", real().stolenTasks(), model.stolen));
        for (Model.Task t : model.tasks) {
            addTask(all, t, where + "task " + t.number + " ");
        }
        for (Model.Cpu cpu : model.cpus) {
            addCpu(all, cpu, where + "CPU " + cpu.number + " ");
        }
        for (int core = 0; core < model.cores(); core++) {
            addCore(all, core, where + "core " + core + " ");
        }
        int none = model.cores();
        all.add(() -> CHECK.badArgument(where + "coreCookie", () -> real().coreCookie(none)));
        all.add(() -> CHECK.badArgument(where + "runningTask", () -> real().runningTask(2 * none)));
        all.add(() -> CHECK.badArgument(where + "stateOf",
            () -> real().stateOf(model.tasks.size())));
        return all;
    }

    private void addTask(List<Runnable> all, Model.Task t, String what) {
        int task = t.number;
        double share = t.run == 0 ? 0.0 : (double) t.run / (double) (t.run + t.wait);
        all.add(() -> CHECK.due(what + "state", real().stateOf(task), STATES.indexOf(t.state)));
        all.add(() -> CHECK.due(what + "CPU", real().cpuOf(task), t.cpu));
        all.add(() -> CHECK.due(what + "time", real().virtualTime(task), t.time));
        all.add(() -> CHECK.due(what + "run ticks", real().runTicks(task), t.run));
        all.add(() -> CHECK.due(what + "wait ticks", real().waitTicks(task), t.wait));
        all.add(() -> CHECK.due(what + "share", real().share(task), share));
    }

    private void addCpu(List<Runnable> all, Model.Cpu c, String what) {
        int cpu = c.number;
        int runs = c.runs == null ? -1 : c.runs.number;
        List<Model.Task> queue = model.queue(cpu);
        all.add(() -> CHECK.due(what + "runs", real().runningTask(cpu), runs));
        all.add(() -> CHECK.due(what + "base", real().baseOf(cpu), c.base));
        all.add(() -> CHECK.due(what + "idle ticks", real().idleTicks(cpu), c.idle));
        all.add(() -> CHECK.due(what + "forced idle ticks", real().forcedIdleTicks(cpu), c.forced));
        all.add(() -> CHECK.due(what + "queue length", real().queueLength(cpu), queue.size()));
        for (int i = 0; i < queue.size(); i++) {
            int index = i;
            int task = queue.get(index).number;
            all.add(() -> CHECK.due(what + "queue " + index, real().queuedTask(cpu, index), task));
        }
        all.add(() -> CHECK.badIndex(what + "queue", () -> real().queuedTask(cpu, queue.size())));
        all.add(() -> CHECK.badIndex(what + "queue", () -> real().queuedTask(cpu, -1)));
    }

    private void addCore(List<Runnable> all, int core, String what) {
        int leader = model.leader(core);
        all.add(() -> CHECK.due(what + "cookie", real().coreCookie(core), model.cookies.get(core)));
        all.add(() -> CHECK.due(what + "leader", real().leaderOf(core), leader));
    }
}
