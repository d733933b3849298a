/** All that the questions of a scheduler answer, as one text. */
final class Snapshot {
    private Snapshot() {
    }

    static String of(CoreScheduler s) {
        return of(s, coresOf(s));
    }

    /**
     * Makes no wrong call before all has been read, so that a wrong call that changes something is
     * seen by its change and not hidden by another one.
     */
    static String of(CoreScheduler s, int cores) {
        StringBuilder text = new StringBuilder();
        text.append("tasks ").append(s.taskCount());
        text.append(" stolen ").append(s.stolenTasks()).append('\n');
        for (int task = 0; task < s.taskCount(); task++) {
            addTask(text, s, task);
        }
        for (int core = 0; core < cores; core++) {
            text.append("core ").append(core);
            text.append(" cookie ").append(s.coreCookie(core));
            text.append(" leader ").append(s.leaderOf(core)).append('\n');
            addCpu(text, s, 2 * core);
            addCpu(text, s, 2 * core + 1);
        }
        text.append("cores ").append(coresOf(s)).append('\n');
        return text.toString();
    }

    /** The number of cores, found by asking. */
    static int coresOf(CoreScheduler s) {
        int cores = 0;
        while (cores < 10 && answersCore(s, cores)) {
            cores++;
        }
        return cores;
    }

    private static boolean answersCore(CoreScheduler s, int core) {
        return Check.thrownBy(() -> s.coreCookie(core)).equals("nothing");
    }

    private static void addTask(StringBuilder text, CoreScheduler s, int task) {
        text.append("task ").append(task);
        text.append(" state ").append(s.stateOf(task));
        text.append(" cpu ").append(s.cpuOf(task));
        text.append(" time ").append(s.virtualTime(task));
        text.append(" run ").append(s.runTicks(task));
        text.append(" wait ").append(s.waitTicks(task));
        text.append(" share ").append(s.share(task));
        // An exited task's weight and cookie can't be asked for, and no longer matter.
        if (s.stateOf(task) != CoreScheduler.EXITED) {
            int weight = s.setWeight(task, 1);
            int cookie = s.setCookie(task, 0);
            s.setWeight(task, weight);
            s.setCookie(task, cookie);
            text.append(" weight ").append(weight).append(" cookie ").append(cookie);
        }
        text.append('\n');
    }

    private static void addCpu(StringBuilder text, CoreScheduler s, int cpu) {
        text.append("cpu ").append(cpu);
        text.append(" runs ").append(s.runningTask(cpu));
        text.append(" base ").append(s.baseOf(cpu));
        text.append(" idle ").append(s.idleTicks(cpu));
        text.append(" forced ").append(s.forcedIdleTicks(cpu));
        text.append(" queue");
        for (int index = 0; index < s.queueLength(cpu); index++) {
            text.append(' ').append(s.queuedTask(cpu, index));
        }
        text.append('\n');
    }
}
