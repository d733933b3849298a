/** Promises 5 to 18: tasks, and the questions about them. */
public final class TasksTest {
    private static final Check CHECK = new Check("TasksTest");
    private static final int[] NO_TASKS = {1, 2, 15, 16, -1, Integer.MIN_VALUE, Integer.MAX_VALUE};

    public static void main(String[] args) {
        createTask();
        createTaskWrong();
        createTaskTime();
        sixteenTasks();
        sleep();
        wake();
        exit();
        exitKeeps();
        setWeight();
        setCookie();
        moveReady();
        moveSleeping();
        moveWrong();
        taskCount();
        states();
        ticksAndShare();
        noSuchTask();
        CHECK.end();
    }

    private static void createTask() {
        CoreScheduler s = new CoreScheduler();
        CHECK.due("createTask(3, 64, 9)", s.createTask(3, 64, 9), 0);
        CHECK.due("createTask(0, 1, 0)", s.createTask(0, 1, 0), 1);
        CHECK.due("stateOf(0)", s.stateOf(0), CoreScheduler.READY);
        CHECK.due("cpuOf(0)", s.cpuOf(0), 3);
        CHECK.due("cpuOf(1)", s.cpuOf(1), 0);
        CHECK.due("weight of 0", s.setWeight(0, 1), 64);
        CHECK.due("cookie of 0", s.setCookie(0, 0), 9);
        CHECK.due("weight of 1", s.setWeight(1, 1), 1);
        CHECK.due("cookie of 1", s.setCookie(1, 0), 0);
        s.reset(4);
        CHECK.due("createTask(7, 1, 0)", s.createTask(7, 1, 0), 0);
    }

    private static void createTaskWrong() {
        CoreScheduler s = new CoreScheduler();
        int[][] wrong = {
            {-1, 1, 0}, {4, 1, 0}, {7, 1, 0}, {8, 1, 0}, {Integer.MIN_VALUE, 1, 0},
            {Integer.MAX_VALUE, 1, 0}, {0, 0, 0}, {0, 65, 0}, {0, -1, 0},
            {0, Integer.MIN_VALUE, 0}, {0, Integer.MAX_VALUE, 0}, {0, 1, -1}, {0, 1, 10},
            {0, 1, Integer.MIN_VALUE}, {0, 1, Integer.MAX_VALUE}, {-1, 0, -1},
        };
        for (int[] a : wrong) {
            String what = "createTask(" + a[0] + ", " + a[1] + ", " + a[2] + ")";
            CHECK.badArgument(what, () -> s.createTask(a[0], a[1], a[2]));
        }
        CHECK.due("taskCount()", s.taskCount(), 0);
        s.reset(1);
        CHECK.badArgument("createTask(2, 1, 0) on one core", () -> s.createTask(2, 1, 0));
        s.reset(4);
        CHECK.badArgument("createTask(8, 1, 0) on four cores", () -> s.createTask(8, 1, 0));
    }

    private static void createTaskTime() {
        CoreScheduler s = new CoreScheduler();
        s.createTask(0, 2, 1);
        s.tick(3);
        CHECK.due("baseOf(0)", s.baseOf(0), 7560);
        s.createTask(0, 1, 1);
        s.createTask(1, 1, 1);
        CHECK.due("time of a task created above a base", s.virtualTime(1), 7560);
        CHECK.due("time of a task created above base 0", s.virtualTime(2), 0);
    }

    private static void sixteenTasks() {
        CoreScheduler s = new CoreScheduler();
        for (int i = 0; i < 16; i++) {
            CHECK.due("createTask number " + i, s.createTask(i % 4, 1 + i, i % 10), i);
        }
        CHECK.badState("the 17th task", () -> s.createTask(0, 1, 0));
        CHECK.badArgument("a wrong CPU comes first", () -> s.createTask(4, 1, 0));
        CHECK.badArgument("a wrong weight comes first", () -> s.createTask(0, 65, 0));
        CHECK.badArgument("a wrong cookie comes first", () -> s.createTask(0, 1, 10));
        s.exit(15);
        CHECK.badState("exited ones are included", () -> s.createTask(0, 1, 0));
        CHECK.due("taskCount()", s.taskCount(), 16);
    }

    private static void sleep() {
        CoreScheduler s = new CoreScheduler();
        s.createTask(0, 1, 1);
        s.createTask(0, 1, 1);
        s.tick(1);
        CHECK.due("sleep of a RUNNING task", s.sleep(0), CoreScheduler.RUNNING);
        CHECK.due("its CPU runs nothing", s.runningTask(0), CoreScheduler.NONE);
        CHECK.due("the cookie stays", s.coreCookie(0), 1);
        CHECK.due("stateOf(0)", s.stateOf(0), CoreScheduler.SLEEPING);
        CHECK.due("queueLength(0)", s.queueLength(0), 1);
        CHECK.due("sleep of a READY task", s.sleep(1), CoreScheduler.READY);
        CHECK.badState("sleep of a SLEEPING task", () -> s.sleep(0));
        s.exit(1);
        CHECK.badState("sleep of an EXITED task", () -> s.sleep(1));
        s.tick(5);
        CHECK.due("a sleeping task does not run", s.runTicks(0), 1);
        CHECK.due("a sleeping task does not wait", s.waitTicks(0), 0);
        CHECK.due("its time stays", s.virtualTime(0), 5040);
    }

    private static void wake() {
        CoreScheduler s = new CoreScheduler();
        s.createTask(0, 1, 1);
        s.createTask(0, 1, 1);
        CHECK.badState("wake of a READY task", () -> s.wake(0));
        s.tick(1);
        CHECK.badState("wake of a RUNNING task", () -> s.wake(0));
        s.sleep(0);
        CHECK.due("a time above the base is kept", s.wake(0), 5040);
        CHECK.due("stateOf(0)", s.stateOf(0), CoreScheduler.READY);
        CHECK.due("its CPU still runs nothing", s.runningTask(0), CoreScheduler.NONE);
        s.sleep(0);
        s.tick(3);
        CHECK.due("baseOf(0)", s.baseOf(0), 15120);
        CHECK.due("the base raises the time", s.wake(0), 15120);
        CHECK.due("virtualTime(0)", s.virtualTime(0), 15120);
        CHECK.due("a tie goes to the lower number", s.leaderOf(0), 0);
        s.exit(0);
        CHECK.badState("wake of an EXITED task", () -> s.wake(0));
    }

    private static void exit() {
        CoreScheduler s = new CoreScheduler();
        for (int i = 0; i < 3; i++) {
            s.createTask(0, 1, 1);
        }
        s.tick(1);
        s.sleep(2);
        CHECK.due("exit of a RUNNING task", s.exit(0), CoreScheduler.RUNNING);
        CHECK.due("its CPU runs nothing", s.runningTask(0), CoreScheduler.NONE);
        CHECK.due("exit of a READY task", s.exit(1), CoreScheduler.READY);
        CHECK.due("exit of a SLEEPING task", s.exit(2), CoreScheduler.SLEEPING);
        CHECK.badState("exit of an EXITED task", () -> s.exit(0));
        CHECK.due("stateOf(0)", s.stateOf(0), CoreScheduler.EXITED);
        CHECK.due("queueLength(0)", s.queueLength(0), 0);
        CHECK.due("coreCookie(0) stays", s.coreCookie(0), 1);
        CHECK.due("tick(2)", s.tick(2), 0);
        CHECK.due("coreCookie(0) after a pick", s.coreCookie(0), CoreScheduler.NONE);
    }

    private static void exitKeeps() {
        CoreScheduler s = new CoreScheduler();
        s.createTask(3, 5, 1);
        s.createTask(3, 5, 1);
        s.tick(4);
        s.exit(0);
        s.tick(6);
        CHECK.due("runTicks(0)", s.runTicks(0), 2);
        CHECK.due("waitTicks(0)", s.waitTicks(0), 2);
        CHECK.due("share(0)", s.share(0), 0.5);
        CHECK.due("cpuOf(0)", s.cpuOf(0), 3);
        CHECK.due("virtualTime(0)", s.virtualTime(0), 2016);
        CHECK.due("taskCount()", s.taskCount(), 2);
    }

    private static void setWeight() {
        CoreScheduler s = new CoreScheduler();
        s.createTask(0, 7, 1);
        CHECK.due("setWeight(0, 64)", s.setWeight(0, 64), 7);
        CHECK.due("setWeight(0, 1)", s.setWeight(0, 1), 64);
        s.tick(1);
        CHECK.due("the new weight counts", s.virtualTime(0), 5040);
        CHECK.due("setWeight of a RUNNING task", s.setWeight(0, 11), 1);
        s.tick(1);
        CHECK.due("5040 / 11 is rounded down", s.virtualTime(0), 5040 + 458);
        s.sleep(0);
        CHECK.due("setWeight of a SLEEPING task", s.setWeight(0, 12), 11);
        for (int weight : new int[] {0, 65, -1, Integer.MIN_VALUE, Integer.MAX_VALUE}) {
            CHECK.badArgument("setWeight(0, " + weight + ")", () -> s.setWeight(0, weight));
        }
        CHECK.badArgument("setWeight(1, 1)", () -> s.setWeight(1, 1));
        CHECK.due("unchanged", s.setWeight(0, 12), 12);
        s.exit(0);
        CHECK.badState("setWeight of an EXITED task", () -> s.setWeight(0, 1));
        CHECK.badArgument("a wrong weight comes first", () -> s.setWeight(0, 0));
    }

    private static void setCookie() {
        CoreScheduler s = new CoreScheduler();
        s.createTask(0, 1, 4);
        s.createTask(1, 1, 4);
        s.tick(1);
        CHECK.due("setCookie(0, 9)", s.setCookie(0, 9), 4);
        CHECK.due("the core's cookie stays", s.coreCookie(0), 4);
        CHECK.due("the task goes on", s.runningTask(0), 0);
        s.tick(1);
        CHECK.due("the next pick counts it", s.coreCookie(0), 9);
        CHECK.due("the sibling is forced idle", s.forcedIdleTicks(1), 1);
        s.sleep(0);
        CHECK.due("setCookie of a SLEEPING task", s.setCookie(0, 0), 9);
        for (int cookie : new int[] {-1, 10, Integer.MIN_VALUE, Integer.MAX_VALUE}) {
            CHECK.badArgument("setCookie(0, " + cookie + ")", () -> s.setCookie(0, cookie));
        }
        CHECK.badArgument("setCookie(2, 1)", () -> s.setCookie(2, 1));
        CHECK.due("unchanged", s.setCookie(0, 0), 0);
        s.exit(0);
        CHECK.badState("setCookie of an EXITED task", () -> s.setCookie(0, 1));
        CHECK.badArgument("a wrong cookie comes first", () -> s.setCookie(0, 10));
    }

    private static void moveReady() {
        CoreScheduler s = new CoreScheduler();
        s.createTask(0, 1, 1);
        s.createTask(0, 1, 1);
        s.createTask(2, 5, 2);
        s.tick(3);
        CHECK.due("baseOf(0)", s.baseOf(0), 5040);
        CHECK.due("baseOf(2)", s.baseOf(2), 3024);
        CHECK.due("stateOf(0)", s.stateOf(0), CoreScheduler.RUNNING);
        CHECK.badState("a RUNNING task", () -> s.moveTask(0, 2));
        CHECK.badState("a RUNNING task to its own CPU", () -> s.moveTask(0, 0));
        s.sleep(0);
        CHECK.due("wake(0)", s.wake(0), 10080);
        CHECK.due("moveTask(0, 2)", s.moveTask(0, 2), 0);
        CHECK.due("the relative time is kept", s.virtualTime(0), 5040 + 3024);
        CHECK.due("cpuOf(0)", s.cpuOf(0), 2);
        CHECK.due("queueLength(0)", s.queueLength(0), 1);
        CHECK.due("queueLength(2)", s.queueLength(2), 2);
        CHECK.due("moveTask(0, 2) to its own CPU", s.moveTask(0, 2), 2);
        CHECK.due("nothing changes", s.virtualTime(0), 5040 + 3024);
        CHECK.due("stateOf(0) stays", s.stateOf(0), CoreScheduler.READY);
        CHECK.due("moveTask(0, 3)", s.moveTask(0, 3), 2);
        CHECK.due("a CPU with base 0", s.virtualTime(0), 5040);
    }

    private static void moveSleeping() {
        CoreScheduler s = new CoreScheduler();
        s.createTask(0, 1, 1);
        s.createTask(2, 2, 2);
        s.tick(4);
        s.sleep(0);
        CHECK.due("moveTask of a SLEEPING task", s.moveTask(0, 2), 0);
        CHECK.due("its time stays", s.virtualTime(0), 20160);
        CHECK.due("stateOf(0)", s.stateOf(0), CoreScheduler.SLEEPING);
        CHECK.due("wake(0)", s.wake(0), 20160);
        s.sleep(1);
        CHECK.due("moveTask(1, 0)", s.moveTask(1, 0), 2);
        CHECK.due("its time stays below the base", s.virtualTime(1), 10080);
        CHECK.due("wake(1) meets the base of the new CPU", s.wake(1), 20160);
    }

    private static void moveWrong() {
        CoreScheduler s = new CoreScheduler();
        s.createTask(0, 1, 1);
        for (int cpu : new int[] {-1, 4, 8, Integer.MIN_VALUE, Integer.MAX_VALUE}) {
            CHECK.badArgument("moveTask(0, " + cpu + ")", () -> s.moveTask(0, cpu));
        }
        CHECK.badArgument("moveTask(1, 0)", () -> s.moveTask(1, 0));
        s.tick(1);
        CHECK.badArgument("a wrong CPU comes before RUNNING", () -> s.moveTask(0, 4));
        s.exit(0);
        CHECK.badState("an EXITED task", () -> s.moveTask(0, 1));
        CHECK.badArgument("a wrong CPU comes before EXITED", () -> s.moveTask(0, -1));
        CHECK.due("cpuOf(0)", s.cpuOf(0), 0);
    }

    private static void taskCount() {
        CoreScheduler s = new CoreScheduler();
        CHECK.due("taskCount() at first", s.taskCount(), 0);
        s.createTask(0, 1, 1);
        s.createTask(0, 1, 1);
        CHECK.due("taskCount() of two", s.taskCount(), 2);
        s.exit(0);
        s.sleep(1);
        CHECK.due("all are counted", s.taskCount(), 2);
        s.reset(2);
        CHECK.due("taskCount() after reset", s.taskCount(), 0);
    }

    private static void states() {
        CoreScheduler s = new CoreScheduler();
        for (int i = 0; i < 4; i++) {
            s.createTask(0, 1, 1);
        }
        s.exit(3);
        s.sleep(2);
        s.tick(1);
        CHECK.due("stateOf(0)", s.stateOf(0), CoreScheduler.RUNNING);
        CHECK.due("stateOf(1)", s.stateOf(1), CoreScheduler.READY);
        CHECK.due("stateOf(2)", s.stateOf(2), CoreScheduler.SLEEPING);
        CHECK.due("stateOf(3)", s.stateOf(3), CoreScheduler.EXITED);
        s.tick(1);
        CHECK.due("stateOf(0) later", s.stateOf(0), CoreScheduler.READY);
        CHECK.due("stateOf(1) later", s.stateOf(1), CoreScheduler.RUNNING);
    }

    private static void ticksAndShare() {
        CoreScheduler s = new CoreScheduler();
        s.createTask(0, 1, 1);
        s.createTask(0, 2, 1);
        CHECK.due("share of a new task", s.share(0), 0.0);
        s.tick(1);
        CHECK.due("share of a task that only ran", s.share(0), 1.0);
        CHECK.due("share of a task that only waited", s.share(1), 0.0);
        s.tick(2);
        CHECK.due("runTicks(0)", s.runTicks(0), 1);
        CHECK.due("runTicks(1)", s.runTicks(1), 2);
        CHECK.due("waitTicks(0)", s.waitTicks(0), 2);
        CHECK.due("waitTicks(1)", s.waitTicks(1), 1);
        CHECK.due("share(0)", s.share(0), 1.0 / 3.0);
        CHECK.due("share(1)", s.share(1), 2.0 / 3.0);
        CHECK.due("virtualTime(0)", s.virtualTime(0), 5040);
        CHECK.due("virtualTime(1)", s.virtualTime(1), 5040);
    }

    private static void noSuchTask() {
        CoreScheduler s = new CoreScheduler();
        CHECK.badArgument("stateOf(0) without tasks", () -> s.stateOf(0));
        s.createTask(0, 1, 1);
        for (int task : NO_TASKS) {
            String of = " of task " + task;
            CHECK.badArgument("sleep" + of, () -> s.sleep(task));
            CHECK.badArgument("wake" + of, () -> s.wake(task));
            CHECK.badArgument("exit" + of, () -> s.exit(task));
            CHECK.badArgument("setWeight" + of, () -> s.setWeight(task, 1));
            CHECK.badArgument("setCookie" + of, () -> s.setCookie(task, 1));
            CHECK.badArgument("moveTask" + of, () -> s.moveTask(task, 1));
            CHECK.badArgument("stateOf" + of, () -> s.stateOf(task));
            CHECK.badArgument("cpuOf" + of, () -> s.cpuOf(task));
            CHECK.badArgument("virtualTime" + of, () -> s.virtualTime(task));
            CHECK.badArgument("runTicks" + of, () -> s.runTicks(task));
            CHECK.badArgument("waitTicks" + of, () -> s.waitTicks(task));
            CHECK.badArgument("share" + of, () -> s.share(task));
        }
        s.reset(2);
        CHECK.badArgument("a task from before the reset", () -> s.stateOf(0));
    }
}
